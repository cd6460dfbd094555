set_option maxHeartbeats 4000000 in
set_option maxRecDepth 100000 in
theorem sL_law_0 {w : Wd} {Q : Int32 → Hp → Prop} {h : Hp} {a0 : Nat} (H : ∀ h1, h1 = (mk h (29, 0)) → AC w mX9_init 341 12125 (rV fun h2 => ∀ h3, h3 = (mk h2 (30, 0)) → AC w mX10_init 37 8902 (rV fun h4 => AW w mL_law 600000 7302250 (rI Q) 380 21096 18 [some (.ref a0), some (.ref h.1), some (.ref h2.1), some (.int 0)] [] h4) [.ref h2.1] h3) [.ref h.1] h1) : AW w mL_law 600000 7302250 (rI Q) 0 0 0 [some (.ref a0), none, none, none] [] h := by
  refine aw_new (ci := 9) 3 1 12 dL_law_0 rfl rfl rfl rfl cn_L_7 wi_9 wn_9 ok_9 (by decide) (by decide) ?_
  replace H := H _ rfl
  refine aw_dup 4 dL_law_3 rfl rfl ?_
  refine aw_callI (stk := [.ref h.1]) [] 7 342 12137 dL_law_4 rfl rfl rfl mv_L_9 ⟨by decide, by decide⟩ rfl rfl (by simp [Value.category]) (by decide) (by decide) H ?_
  rintro _ h2 ⟨rfl, H⟩
  refine aw_astore_n (loc' := [some (.ref a0), some (.ref h.1), none, none]) 8 dL_law_7 rfl (by decide) rfl ?_
  refine aw_new (ci := 10) 11 343 12194 dL_law_8 rfl rfl rfl rfl cn_L_10 wi_10 wn_10 ok_10 (by decide) (by decide) ?_
  replace H := H _ rfl
  refine aw_dup 12 dL_law_11 rfl rfl ?_
  refine aw_callI (stk := [.ref h2.1]) [] 15 380 21096 dL_law_12 rfl rfl rfl mv_L_12 ⟨by decide, by decide⟩ rfl rfl (by simp [Value.category]) (by decide) (by decide) H ?_
  rintro _ h4 ⟨rfl, H⟩
  refine aw_astore_n (loc' := [some (.ref a0), some (.ref h.1), some (.ref h2.1), none]) 16 dL_law_15 rfl (by decide) rfl ?_
  refine aw_iconst (v := 0) 17 dL_law_16 rfl (by decide) ?_
  refine aw_istore_n (loc' := [some (.ref a0), some (.ref h.1), some (.ref h2.1), some (.int 0)]) 18 dL_law_17 rfl (by decide) rfl ?_
  exact H
set_option maxHeartbeats 4000000 in
set_option maxRecDepth 100000 in
theorem sL_law_18 {w : Wd} {Q : Int32 → Hp → Prop} {h : Hp} {a0 : Nat} {a1 : Nat} {a2 : Nat} {x3 : Int32} (H : (hs h a0).1 = 4 ∧ ((((Int32.ofNat (hs h a0).2) - 6) < x3 → Q 1 h) ∧ (¬ ((Int32.ofNat (hs h a0).2) - 6) < x3 → vp_in x3 (hs h a0).2 ∧ (((((hI h a0 x3.toNatClampNeg) &&& 63).toInt < 0 ∨ 35 < ((hI h a0 x3.toNatClampNeg) &&& 63).toInt) → AW w mL_law 600000 7302250 (rI Q) 380 21096 18 [some (.ref a0), some (.ref a1), some (.ref a2), some (.int (x3 + 6))] [] h) ∧ (((hI h a0 x3.toNatClampNeg) &&& 63).toInt = 0 → vp_in (x3 + 1) (hs h a0).2 ∧ vp_in (x3 + 2) (hs h a0).2 ∧ vp_in (x3 + 3) (hs h a0).2 ∧ vp_in (x3 + 4) (hs h a0).2 ∧ vp_in (x3 + 5) (hs h a0).2 ∧ (hs h a1).1 = 29 ∧ AC w mX9_feed 0 0 (rI fun r1 h1 => (hs h1 a0).1 = 4 ∧ vp_in (x3 + 1) (hs h1 a0).2 ∧ vp_in (x3 + 2) (hs h1 a0).2 ∧ vp_in (x3 + 3) (hs h1 a0).2 ∧ vp_in (x3 + 4) (hs h1 a0).2 ∧ vp_in (x3 + 5) (hs h1 a0).2 ∧ (hs h1 a2).1 = 30 ∧ AC w mX10_feed 0 0 (rI fun r2 h2 => ((r1 = r2 → AW w mL_law 600000 7302250 (rI Q) 380 21096 18 [some (.ref a0), some (.ref a1), some (.ref a2), some (.int (x3 + 6))] [] h2) ∧ (¬ r1 = r2 → Q 0 h2))) [.ref a2, .int (hI h1 a0 (x3 + 1).toNatClampNeg), .int (hI h1 a0 (x3 + 2).toNatClampNeg), .int (hI h1 a0 (x3 + 3).toNatClampNeg), .int (hI h1 a0 (x3 + 4).toNatClampNeg), .int (hI h1 a0 (x3 + 5).toNatClampNeg)] h1) [.ref a1, .int (hI h a0 (x3 + 1).toNatClampNeg), .int (hI h a0 (x3 + 2).toNatClampNeg), .int (hI h a0 (x3 + 3).toNatClampNeg), .int (hI h a0 (x3 + 4).toNatClampNeg), .int (hI h a0 (x3 + 5).toNatClampNeg)] h) ∧ (((hI h a0 x3.toNatClampNeg) &&& 63).toInt = 1 → vp_in (x3 + 1) (hs h a0).2 ∧ (hs h a1).1 = 29 ∧ AC w mX9_cut 0 0 (rI fun r3 h3 => (hs h3 a0).1 = 4 ∧ vp_in (x3 + 1) (hs h3 a0).2 ∧ (hs h3 a2).1 = 30 ∧ AC w mX10_cut 0 0 (rI fun r4 h4 => ((r3 = r4 → AW w mL_law 600000 7302250 (rI Q) 380 21096 18 [some (.ref a0), some (.ref a1), some (.ref a2), some (.int (x3 + 6))] [] h4) ∧ (¬ r3 = r4 → Q 0 h4))) [.ref a2, .int (hI h3 a0 (x3 + 1).toNatClampNeg)] h3) [.ref a1, .int (hI h a0 (x3 + 1).toNatClampNeg)] h) ∧ (((hI h a0 x3.toNatClampNeg) &&& 63).toInt = 2 → (hs h a1).1 = 29 ∧ AC w mX9_abbreviate 0 0 (rI fun r5 h5 => (hs h5 a2).1 = 30 ∧ AC w mX10_abbreviate 0 0 (rI fun r6 h6 => ((r5 = r6 → AW w mL_law 600000 7302250 (rI Q) 380 21096 18 [some (.ref a0), some (.ref a1), some (.ref a2), some (.int (x3 + 6))] [] h6) ∧ (¬ r5 = r6 → Q 0 h6))) [.ref a2] h5) [.ref a1] h) ∧ (((hI h a0 x3.toNatClampNeg) &&& 63).toInt = 3 → vp_in (x3 + 1) (hs h a0).2 ∧ (hs h a1).1 = 29 ∧ AC w mX9_take 0 0 (rI fun r7 h7 => (hs h7 a0).1 = 4 ∧ vp_in (x3 + 1) (hs h7 a0).2 ∧ (hs h7 a2).1 = 30 ∧ AC w mX10_take 0 0 (rI fun r8 h8 => ((r7 = r8 → AW w mL_law 600000 7302250 (rI Q) 380 21096 18 [some (.ref a0), some (.ref a1), some (.ref a2), some (.int (x3 + 6))] [] h8) ∧ (¬ r7 = r8 → Q 0 h8))) [.ref a2, .int (hI h7 a0 (x3 + 1).toNatClampNeg)] h7) [.ref a1, .int (hI h a0 (x3 + 1).toNatClampNeg)] h) ∧ (((hI h a0 x3.toNatClampNeg) &&& 63).toInt = 4 → vp_in (x3 + 1) (hs h a0).2 ∧ vp_in (x3 + 2) (hs h a0).2 ∧ (hs h a1).1 = 29 ∧ AC w mX9_count 0 0 (rI fun r9 h9 => (hs h9 a0).1 = 4 ∧ vp_in (x3 + 1) (hs h9 a0).2 ∧ vp_in (x3 + 2) (hs h9 a0).2 ∧ (hs h9 a2).1 = 30 ∧ AC w mX10_count 0 0 (rI fun r10 h10 => ((r9 = r10 → AW w mL_law 600000 7302250 (rI Q) 380 21096 18 [some (.ref a0), some (.ref a1), some (.ref a2), some (.int (x3 + 6))] [] h10) ∧ (¬ r9 = r10 → Q 0 h10))) [.ref a2, .int (hI h9 a0 (x3 + 1).toNatClampNeg), .int (hI h9 a0 (x3 + 2).toNatClampNeg)] h9) [.ref a1, .int (hI h a0 (x3 + 1).toNatClampNeg), .int (hI h a0 (x3 + 2).toNatClampNeg)] h) ∧ (((hI h a0 x3.toNatClampNeg) &&& 63).toInt = 5 → vp_in (x3 + 1) (hs h a0).2 ∧ vp_in (x3 + 2) (hs h a0).2 ∧ vp_in (x3 + 3) (hs h a0).2 ∧ (hs h a1).1 = 29 ∧ AC w mX9_sentence 0 0 (rI fun r11 h11 => (hs h11 a0).1 = 4 ∧ vp_in (x3 + 1) (hs h11 a0).2 ∧ vp_in (x3 + 2) (hs h11 a0).2 ∧ vp_in (x3 + 3) (hs h11 a0).2 ∧ (hs h11 a2).1 = 30 ∧ AC w mX10_sentence 0 0 (rI fun r12 h12 => ((r11 = r12 → AW w mL_law 600000 7302250 (rI Q) 380 21096 18 [some (.ref a0), some (.ref a1), some (.ref a2), some (.int (x3 + 6))] [] h12) ∧ (¬ r11 = r12 → Q 0 h12))) [.ref a2, .int (hI h11 a0 (x3 + 1).toNatClampNeg), .int (hI h11 a0 (x3 + 2).toNatClampNeg), .int (hI h11 a0 (x3 + 3).toNatClampNeg)] h11) [.ref a1, .int (hI h a0 (x3 + 1).toNatClampNeg), .int (hI h a0 (x3 + 2).toNatClampNeg), .int (hI h a0 (x3 + 3).toNatClampNeg)] h) ∧ (((hI h a0 x3.toNatClampNeg) &&& 63).toInt = 6 → vp_in (x3 + 1) (hs h a0).2 ∧ vp_in (x3 + 2) (hs h a0).2 ∧ vp_in (x3 + 3) (hs h a0).2 ∧ (hs h a1).1 = 29 ∧ AC w mX9_word 0 0 (rI fun r13 h13 => (hs h13 a0).1 = 4 ∧ vp_in (x3 + 1) (hs h13 a0).2 ∧ vp_in (x3 + 2) (hs h13 a0).2 ∧ vp_in (x3 + 3) (hs h13 a0).2 ∧ (hs h13 a2).1 = 30 ∧ AC w mX10_word 0 0 (rI fun r14 h14 => ((r13 = r14 → AW w mL_law 600000 7302250 (rI Q) 380 21096 18 [some (.ref a0), some (.ref a1), some (.ref a2), some (.int (x3 + 6))] [] h14) ∧ (¬ r13 = r14 → Q 0 h14))) [.ref a2, .int (hI h13 a0 (x3 + 1).toNatClampNeg), .int (hI h13 a0 (x3 + 2).toNatClampNeg), .int (hI h13 a0 (x3 + 3).toNatClampNeg)] h13) [.ref a1, .int (hI h a0 (x3 + 1).toNatClampNeg), .int (hI h a0 (x3 + 2).toNatClampNeg), .int (hI h a0 (x3 + 3).toNatClampNeg)] h) ∧ (((hI h a0 x3.toNatClampNeg) &&& 63).toInt = 7 → vp_in (x3 + 1) (hs h a0).2 ∧ vp_in (x3 + 2) (hs h a0).2 ∧ vp_in (x3 + 3) (hs h a0).2 ∧ (hs h a1).1 = 29 ∧ AC w mX9_letter 0 0 (rI fun r15 h15 => (hs h15 a0).1 = 4 ∧ vp_in (x3 + 1) (hs h15 a0).2 ∧ vp_in (x3 + 2) (hs h15 a0).2 ∧ vp_in (x3 + 3) (hs h15 a0).2 ∧ (hs h15 a2).1 = 30 ∧ AC w mX10_letter 0 0 (rI fun r16 h16 => ((r15 = r16 → AW w mL_law 600000 7302250 (rI Q) 380 21096 18 [some (.ref a0), some (.ref a1), some (.ref a2), some (.int (x3 + 6))] [] h16) ∧ (¬ r15 = r16 → Q 0 h16))) [.ref a2, .int (hI h15 a0 (x3 + 1).toNatClampNeg), .int (hI h15 a0 (x3 + 2).toNatClampNeg), .int (hI h15 a0 (x3 + 3).toNatClampNeg)] h15) [.ref a1, .int (hI h a0 (x3 + 1).toNatClampNeg), .int (hI h a0 (x3 + 2).toNatClampNeg), .int (hI h a0 (x3 + 3).toNatClampNeg)] h) ∧ (((hI h a0 x3.toNatClampNeg) &&& 63).toInt = 8 → vp_in (x3 + 1) (hs h a0).2 ∧ vp_in (x3 + 2) (hs h a0).2 ∧ vp_in (x3 + 3) (hs h a0).2 ∧ vp_in (x3 + 4) (hs h a0).2 ∧ (hs h a1).1 = 29 ∧ AC w mX9_change 0 0 (rI fun r17 h17 => (hs h17 a0).1 = 4 ∧ vp_in (x3 + 1) (hs h17 a0).2 ∧ vp_in (x3 + 2) (hs h17 a0).2 ∧ vp_in (x3 + 3) (hs h17 a0).2 ∧ vp_in (x3 + 4) (hs h17 a0).2 ∧ (hs h17 a2).1 = 30 ∧ AC w mX10_change 0 0 (rI fun r18 h18 => ((r17 = r18 → AW w mL_law 600000 7302250 (rI Q) 380 21096 18 [some (.ref a0), some (.ref a1), some (.ref a2), some (.int (x3 + 6))] [] h18) ∧ (¬ r17 = r18 → Q 0 h18))) [.ref a2, .int (hI h17 a0 (x3 + 1).toNatClampNeg), .int (hI h17 a0 (x3 + 2).toNatClampNeg), .int (hI h17 a0 (x3 + 3).toNatClampNeg), .int (hI h17 a0 (x3 + 4).toNatClampNeg)] h17) [.ref a1, .int (hI h a0 (x3 + 1).toNatClampNeg), .int (hI h a0 (x3 + 2).toNatClampNeg), .int (hI h a0 (x3 + 3).toNatClampNeg), .int (hI h a0 (x3 + 4).toNatClampNeg)] h) ∧ (((hI h a0 x3.toNatClampNeg) &&& 63).toInt = 9 → vp_in (x3 + 1) (hs h a0).2 ∧ vp_in (x3 + 2) (hs h a0).2 ∧ (hs h a1).1 = 29 ∧ AC w mX9_fast 0 0 (rI fun r19 h19 => (hs h19 a0).1 = 4 ∧ vp_in (x3 + 1) (hs h19 a0).2 ∧ vp_in (x3 + 2) (hs h19 a0).2 ∧ (hs h19 a2).1 = 30 ∧ AC w mX10_fast 0 0 (rI fun r20 h20 => ((r19 = r20 → AW w mL_law 600000 7302250 (rI Q) 380 21096 18 [some (.ref a0), some (.ref a1), some (.ref a2), some (.int (x3 + 6))] [] h20) ∧ (¬ r19 = r20 → Q 0 h20))) [.ref a2, .int (hI h19 a0 (x3 + 1).toNatClampNeg), .int (hI h19 a0 (x3 + 2).toNatClampNeg)] h19) [.ref a1, .int (hI h a0 (x3 + 1).toNatClampNeg), .int (hI h a0 (x3 + 2).toNatClampNeg)] h) ∧ (((hI h a0 x3.toNatClampNeg) &&& 63).toInt = 10 → vp_in (x3 + 1) (hs h a0).2 ∧ (hs h a1).1 = 29 ∧ AC w mX9_loosen 0 0 (rI fun r21 h21 => (hs h21 a0).1 = 4 ∧ vp_in (x3 + 1) (hs h21 a0).2 ∧ (hs h21 a2).1 = 30 ∧ AC w mX10_loosen 0 0 (rI fun r22 h22 => ((r21 = r22 → AW w mL_law 600000 7302250 (rI Q) 380 21096 18 [some (.ref a0), some (.ref a1), some (.ref a2), some (.int (x3 + 6))] [] h22) ∧ (¬ r21 = r22 → Q 0 h22))) [.ref a2, .int (hI h21 a0 (x3 + 1).toNatClampNeg)] h21) [.ref a1, .int (hI h a0 (x3 + 1).toNatClampNeg)] h) ∧ (((hI h a0 x3.toNatClampNeg) &&& 63).toInt = 11 → vp_in (x3 + 1) (hs h a0).2 ∧ (((hI h a0 (x3 + 1).toNatClampNeg) = 0 → (hs h a1).1 = 29 ∧ AC w mX9_keep 0 0 (rI fun r23 h23 => (hs h23 a0).1 = 4 ∧ vp_in (x3 + 1) (hs h23 a0).2 ∧ (((hI h23 a0 (x3 + 1).toNatClampNeg) = 0 → (hs h23 a2).1 = 30 ∧ AC w mX10_keep 0 0 (rI fun r24 h24 => ((r23 = r24 → AW w mL_law 600000 7302250 (rI Q) 380 21096 18 [some (.ref a0), some (.ref a1), some (.ref a2), some (.int (x3 + 6))] [] h24) ∧ (¬ r23 = r24 → Q 0 h24))) [.ref a2, .int 0] h23) ∧ (¬ (hI h23 a0 (x3 + 1).toNatClampNeg) = 0 → (hs h23 a2).1 = 30 ∧ AC w mX10_keep 0 0 (rI fun r25 h25 => ((r23 = r25 → AW w mL_law 600000 7302250 (rI Q) 380 21096 18 [some (.ref a0), some (.ref a1), some (.ref a2), some (.int (x3 + 6))] [] h25) ∧ (¬ r23 = r25 → Q 0 h25))) [.ref a2, .int 1] h23))) [.ref a1, .int 0] h) ∧ (¬ (hI h a0 (x3 + 1).toNatClampNeg) = 0 → (hs h a1).1 = 29 ∧ AC w mX9_keep 0 0 (rI fun r26 h26 => (hs h26 a0).1 = 4 ∧ vp_in (x3 + 1) (hs h26 a0).2 ∧ (((hI h26 a0 (x3 + 1).toNatClampNeg) = 0 → (hs h26 a2).1 = 30 ∧ AC w mX10_keep 0 0 (rI fun r27 h27 => ((r26 = r27 → AW w mL_law 600000 7302250 (rI Q) 380 21096 18 [some (.ref a0), some (.ref a1), some (.ref a2), some (.int (x3 + 6))] [] h27) ∧ (¬ r26 = r27 → Q 0 h27))) [.ref a2, .int 0] h26) ∧ (¬ (hI h26 a0 (x3 + 1).toNatClampNeg) = 0 → (hs h26 a2).1 = 30 ∧ AC w mX10_keep 0 0 (rI fun r28 h28 => ((r26 = r28 → AW w mL_law 600000 7302250 (rI Q) 380 21096 18 [some (.ref a0), some (.ref a1), some (.ref a2), some (.int (x3 + 6))] [] h28) ∧ (¬ r26 = r28 → Q 0 h28))) [.ref a2, .int 1] h26))) [.ref a1, .int 1] h))) ∧ (((hI h a0 x3.toNatClampNeg) &&& 63).toInt = 12 → (hs h a1).1 = 29 ∧ AC w mX9_lay 0 0 (rI fun r29 h29 => (hs h29 a2).1 = 30 ∧ AC w mX10_lay 0 0 (rI fun r30 h30 => ((r29 = r30 → AW w mL_law 600000 7302250 (rI Q) 380 21096 18 [some (.ref a0), some (.ref a1), some (.ref a2), some (.int (x3 + 6))] [] h30) ∧ (¬ r29 = r30 → Q 0 h30))) [.ref a2] h29) [.ref a1] h) ∧ (((hI h a0 x3.toNatClampNeg) &&& 63).toInt = 13 → vp_in (x3 + 1) (hs h a0).2 ∧ vp_in (x3 + 2) (hs h a0).2 ∧ (hs h a1).1 = 29 ∧ AC w mX9_joint 0 0 (rI fun r31 h31 => (hs h31 a0).1 = 4 ∧ vp_in (x3 + 1) (hs h31 a0).2 ∧ vp_in (x3 + 2) (hs h31 a0).2 ∧ (hs h31 a2).1 = 30 ∧ AC w mX10_joint 0 0 (rI fun r32 h32 => ((r31 = r32 → AW w mL_law 600000 7302250 (rI Q) 380 21096 18 [some (.ref a0), some (.ref a1), some (.ref a2), some (.int (x3 + 6))] [] h32) ∧ (¬ r31 = r32 → Q 0 h32))) [.ref a2, .int (hI h31 a0 (x3 + 1).toNatClampNeg), .int (hI h31 a0 (x3 + 2).toNatClampNeg)] h31) [.ref a1, .int (hI h a0 (x3 + 1).toNatClampNeg), .int (hI h a0 (x3 + 2).toNatClampNeg)] h) ∧ (((hI h a0 x3.toNatClampNeg) &&& 63).toInt = 14 → vp_in (x3 + 1) (hs h a0).2 ∧ vp_in (x3 + 2) (hs h a0).2 ∧ vp_in (x3 + 3) (hs h a0).2 ∧ (hs h a1).1 = 29 ∧ AC w mX9_price 0 0 (rI fun r33 h33 => (hs h33 a0).1 = 4 ∧ vp_in (x3 + 1) (hs h33 a0).2 ∧ vp_in (x3 + 2) (hs h33 a0).2 ∧ vp_in (x3 + 3) (hs h33 a0).2 ∧ (hs h33 a2).1 = 30 ∧ AC w mX10_price 0 0 (rI fun r34 h34 => ((r33 = r34 → AW w mL_law 600000 7302250 (rI Q) 380 21096 18 [some (.ref a0), some (.ref a1), some (.ref a2), some (.int (x3 + 6))] [] h34) ∧ (¬ r33 = r34 → Q 0 h34))) [.ref a2, .int (hI h33 a0 (x3 + 1).toNatClampNeg), .int (hI h33 a0 (x3 + 2).toNatClampNeg), .int (hI h33 a0 (x3 + 3).toNatClampNeg)] h33) [.ref a1, .int (hI h a0 (x3 + 1).toNatClampNeg), .int (hI h a0 (x3 + 2).toNatClampNeg), .int (hI h a0 (x3 + 3).toNatClampNeg)] h) ∧ (((hI h a0 x3.toNatClampNeg) &&& 63).toInt = 15 → vp_in (x3 + 1) (hs h a0).2 ∧ vp_in (x3 + 2) (hs h a0).2 ∧ (hs h a1).1 = 29 ∧ AC w mX9_rest 0 0 (rI fun r35 h35 => (hs h35 a0).1 = 4 ∧ vp_in (x3 + 1) (hs h35 a0).2 ∧ vp_in (x3 + 2) (hs h35 a0).2 ∧ (hs h35 a2).1 = 30 ∧ AC w mX10_rest 0 0 (rI fun r36 h36 => ((r35 = r36 → AW w mL_law 600000 7302250 (rI Q) 380 21096 18 [some (.ref a0), some (.ref a1), some (.ref a2), some (.int (x3 + 6))] [] h36) ∧ (¬ r35 = r36 → Q 0 h36))) [.ref a2, .int (hI h35 a0 (x3 + 1).toNatClampNeg), .int (hI h35 a0 (x3 + 2).toNatClampNeg)] h35) [.ref a1, .int (hI h a0 (x3 + 1).toNatClampNeg), .int (hI h a0 (x3 + 2).toNatClampNeg)] h) ∧ (((hI h a0 x3.toNatClampNeg) &&& 63).toInt = 16 → (hs h a1).1 = 29 ∧ AC w mX9_second 0 0 (rI fun r37 h37 => (hs h37 a2).1 = 30 ∧ AC w mX10_second 0 0 (rI fun r38 h38 => ((r37 = r38 → AW w mL_law 600000 7302250 (rI Q) 380 21096 18 [some (.ref a0), some (.ref a1), some (.ref a2), some (.int (x3 + 6))] [] h38) ∧ (¬ r37 = r38 → Q 0 h38))) [.ref a2] h37) [.ref a1] h) ∧ (((hI h a0 x3.toNatClampNeg) &&& 63).toInt = 17 → vp_in (x3 + 1) (hs h a0).2 ∧ vp_in (x3 + 2) (hs h a0).2 ∧ (hs h a1).1 = 29 ∧ AC w mX9_sure 0 0 (rI fun r39 h39 => (hs h39 a0).1 = 4 ∧ vp_in (x3 + 1) (hs h39 a0).2 ∧ vp_in (x3 + 2) (hs h39 a0).2 ∧ (hs h39 a2).1 = 30 ∧ AC w mX10_sure 0 0 (rI fun r40 h40 => ((r39 = r40 → AW w mL_law 600000 7302250 (rI Q) 380 21096 18 [some (.ref a0), some (.ref a1), some (.ref a2), some (.int (x3 + 6))] [] h40) ∧ (¬ r39 = r40 → Q 0 h40))) [.ref a2, .int (hI h39 a0 (x3 + 1).toNatClampNeg), .int (hI h39 a0 (x3 + 2).toNatClampNeg)] h39) [.ref a1, .int (hI h a0 (x3 + 1).toNatClampNeg), .int (hI h a0 (x3 + 2).toNatClampNeg)] h) ∧ (((hI h a0 x3.toNatClampNeg) &&& 63).toInt = 18 → vp_in (x3 + 1) (hs h a0).2 ∧ (hs h a1).1 = 29 ∧ AC w mX9_rounds 0 0 (rI fun r41 h41 => (hs h41 a0).1 = 4 ∧ vp_in (x3 + 1) (hs h41 a0).2 ∧ (hs h41 a2).1 = 30 ∧ AC w mX10_rounds 0 0 (rI fun r42 h42 => ((r41 = r42 → AW w mL_law 600000 7302250 (rI Q) 380 21096 18 [some (.ref a0), some (.ref a1), some (.ref a2), some (.int (x3 + 6))] [] h42) ∧ (¬ r41 = r42 → Q 0 h42))) [.ref a2, .int (hI h41 a0 (x3 + 1).toNatClampNeg)] h41) [.ref a1, .int (hI h a0 (x3 + 1).toNatClampNeg)] h) ∧ (((hI h a0 x3.toNatClampNeg) &&& 63).toInt = 19 → vp_in (x3 + 1) (hs h a0).2 ∧ vp_in (x3 + 2) (hs h a0).2 ∧ (hs h a1).1 = 29 ∧ AC w mX9_share 0 0 (rI fun r43 h43 => (hs h43 a0).1 = 4 ∧ vp_in (x3 + 1) (hs h43 a0).2 ∧ vp_in (x3 + 2) (hs h43 a0).2 ∧ (hs h43 a2).1 = 30 ∧ AC w mX10_share 0 0 (rI fun r44 h44 => ((r43 = r44 → AW w mL_law 600000 7302250 (rI Q) 380 21096 18 [some (.ref a0), some (.ref a1), some (.ref a2), some (.int (x3 + 6))] [] h44) ∧ (¬ r43 = r44 → Q 0 h44))) [.ref a2, .int (hI h43 a0 (x3 + 1).toNatClampNeg), .int (hI h43 a0 (x3 + 2).toNatClampNeg)] h43) [.ref a1, .int (hI h a0 (x3 + 1).toNatClampNeg), .int (hI h a0 (x3 + 2).toNatClampNeg)] h) ∧ (((hI h a0 x3.toNatClampNeg) &&& 63).toInt = 20 → vp_in (x3 + 1) (hs h a0).2 ∧ vp_in (x3 + 2) (hs h a0).2 ∧ (hs h a1).1 = 29 ∧ AC w mX9_partner 0 0 (rI fun r45 h45 => (hs h45 a0).1 = 4 ∧ vp_in (x3 + 1) (hs h45 a0).2 ∧ vp_in (x3 + 2) (hs h45 a0).2 ∧ (hs h45 a2).1 = 30 ∧ AC w mX10_partner 0 0 (rI fun r46 h46 => ((r45 = r46 → AW w mL_law 600000 7302250 (rI Q) 380 21096 18 [some (.ref a0), some (.ref a1), some (.ref a2), some (.int (x3 + 6))] [] h46) ∧ (¬ r45 = r46 → Q 0 h46))) [.ref a2, .int (hI h45 a0 (x3 + 1).toNatClampNeg), .int (hI h45 a0 (x3 + 2).toNatClampNeg)] h45) [.ref a1, .int (hI h a0 (x3 + 1).toNatClampNeg), .int (hI h a0 (x3 + 2).toNatClampNeg)] h) ∧ (((hI h a0 x3.toNatClampNeg) &&& 63).toInt = 21 → vp_in (x3 + 1) (hs h a0).2 ∧ vp_in (x3 + 2) (hs h a0).2 ∧ (hs h a1).1 = 29 ∧ AC w mX9_term 0 0 (rI fun r47 h47 => (hs h47 a0).1 = 4 ∧ vp_in (x3 + 1) (hs h47 a0).2 ∧ vp_in (x3 + 2) (hs h47 a0).2 ∧ (hs h47 a2).1 = 30 ∧ AC w mX10_term 0 0 (rI fun r48 h48 => ((r47 = r48 → AW w mL_law 600000 7302250 (rI Q) 380 21096 18 [some (.ref a0), some (.ref a1), some (.ref a2), some (.int (x3 + 6))] [] h48) ∧ (¬ r47 = r48 → Q 0 h48))) [.ref a2, .int (hI h47 a0 (x3 + 1).toNatClampNeg), .int (hI h47 a0 (x3 + 2).toNatClampNeg)] h47) [.ref a1, .int (hI h a0 (x3 + 1).toNatClampNeg), .int (hI h a0 (x3 + 2).toNatClampNeg)] h) ∧ (((hI h a0 x3.toNatClampNeg) &&& 63).toInt = 22 → (hs h a1).1 = 29 ∧ AC w mX9_broken 0 0 (rI fun r49 h49 => (hs h49 a2).1 = 30 ∧ AC w mX10_broken 0 0 (rI fun r50 h50 => ((r49 = r50 → AW w mL_law 600000 7302250 (rI Q) 380 21096 18 [some (.ref a0), some (.ref a1), some (.ref a2), some (.int (x3 + 6))] [] h50) ∧ (¬ r49 = r50 → Q 0 h50))) [.ref a2] h49) [.ref a1] h) ∧ (((hI h a0 x3.toNatClampNeg) &&& 63).toInt = 23 → vp_in (x3 + 1) (hs h a0).2 ∧ vp_in (x3 + 2) (hs h a0).2 ∧ vp_in (x3 + 3) (hs h a0).2 ∧ (hs h a1).1 = 29 ∧ AC w mX9_link 0 0 (rI fun r51 h51 => (hs h51 a0).1 = 4 ∧ vp_in (x3 + 1) (hs h51 a0).2 ∧ vp_in (x3 + 2) (hs h51 a0).2 ∧ vp_in (x3 + 3) (hs h51 a0).2 ∧ (hs h51 a2).1 = 30 ∧ AC w mX10_link 0 0 (rI fun r52 h52 => ((r51 = r52 → AW w mL_law 600000 7302250 (rI Q) 380 21096 18 [some (.ref a0), some (.ref a1), some (.ref a2), some (.int (x3 + 6))] [] h52) ∧ (¬ r51 = r52 → Q 0 h52))) [.ref a2, .int (hI h51 a0 (x3 + 1).toNatClampNeg), .int (hI h51 a0 (x3 + 2).toNatClampNeg), .int (hI h51 a0 (x3 + 3).toNatClampNeg)] h51) [.ref a1, .int (hI h a0 (x3 + 1).toNatClampNeg), .int (hI h a0 (x3 + 2).toNatClampNeg), .int (hI h a0 (x3 + 3).toNatClampNeg)] h) ∧ (((hI h a0 x3.toNatClampNeg) &&& 63).toInt = 24 → vp_in (x3 + 1) (hs h a0).2 ∧ vp_in (x3 + 2) (hs h a0).2 ∧ vp_in (x3 + 3) (hs h a0).2 ∧ vp_in (x3 + 4) (hs h a0).2 ∧ (hs h a1).1 = 29 ∧ AC w mX9_linked 0 0 (rI fun r53 h53 => (hs h53 a0).1 = 4 ∧ vp_in (x3 + 1) (hs h53 a0).2 ∧ vp_in (x3 + 2) (hs h53 a0).2 ∧ vp_in (x3 + 3) (hs h53 a0).2 ∧ vp_in (x3 + 4) (hs h53 a0).2 ∧ (hs h53 a2).1 = 30 ∧ AC w mX10_linked 0 0 (rI fun r54 h54 => ((r53 = r54 → AW w mL_law 600000 7302250 (rI Q) 380 21096 18 [some (.ref a0), some (.ref a1), some (.ref a2), some (.int (x3 + 6))] [] h54) ∧ (¬ r53 = r54 → Q 0 h54))) [.ref a2, .int (hI h53 a0 (x3 + 1).toNatClampNeg), .int (hI h53 a0 (x3 + 2).toNatClampNeg), .int (hI h53 a0 (x3 + 3).toNatClampNeg), .int (hI h53 a0 (x3 + 4).toNatClampNeg)] h53) [.ref a1, .int (hI h a0 (x3 + 1).toNatClampNeg), .int (hI h a0 (x3 + 2).toNatClampNeg), .int (hI h a0 (x3 + 3).toNatClampNeg), .int (hI h a0 (x3 + 4).toNatClampNeg)] h) ∧ (((hI h a0 x3.toNatClampNeg) &&& 63).toInt = 25 → vp_in (x3 + 1) (hs h a0).2 ∧ (hs h a1).1 = 29 ∧ AC w mX9_phrases 0 0 (rI fun r55 h55 => (hs h55 a0).1 = 4 ∧ vp_in (x3 + 1) (hs h55 a0).2 ∧ (hs h55 a2).1 = 30 ∧ AC w mX10_phrases 0 0 (rI fun r56 h56 => ((r55 = r56 → AW w mL_law 600000 7302250 (rI Q) 380 21096 18 [some (.ref a0), some (.ref a1), some (.ref a2), some (.int (x3 + 6))] [] h56) ∧ (¬ r55 = r56 → Q 0 h56))) [.ref a2, .int (hI h55 a0 (x3 + 1).toNatClampNeg)] h55) [.ref a1, .int (hI h a0 (x3 + 1).toNatClampNeg)] h) ∧ (((hI h a0 x3.toNatClampNeg) &&& 63).toInt = 26 → vp_in (x3 + 1) (hs h a0).2 ∧ vp_in (x3 + 2) (hs h a0).2 ∧ vp_in (x3 + 3) (hs h a0).2 ∧ (hs h a1).1 = 29 ∧ AC w mX9_putSentence 0 0 (rI fun r57 h57 => (hs h57 a0).1 = 4 ∧ vp_in (x3 + 1) (hs h57 a0).2 ∧ vp_in (x3 + 2) (hs h57 a0).2 ∧ vp_in (x3 + 3) (hs h57 a0).2 ∧ (hs h57 a2).1 = 30 ∧ AC w mX10_putSentence 0 0 (rI fun r58 h58 => ((r57 = r58 → AW w mL_law 600000 7302250 (rI Q) 380 21096 18 [some (.ref a0), some (.ref a1), some (.ref a2), some (.int (x3 + 6))] [] h58) ∧ (¬ r57 = r58 → Q 0 h58))) [.ref a2, .int (hI h57 a0 (x3 + 1).toNatClampNeg), .int (hI h57 a0 (x3 + 2).toNatClampNeg), .int (hI h57 a0 (x3 + 3).toNatClampNeg)] h57) [.ref a1, .int (hI h a0 (x3 + 1).toNatClampNeg), .int (hI h a0 (x3 + 2).toNatClampNeg), .int (hI h a0 (x3 + 3).toNatClampNeg)] h) ∧ (((hI h a0 x3.toNatClampNeg) &&& 63).toInt = 27 → vp_in (x3 + 1) (hs h a0).2 ∧ vp_in (x3 + 2) (hs h a0).2 ∧ (hs h a1).1 = 29 ∧ AC w mX9_putJoint 0 0 (rI fun r59 h59 => (hs h59 a0).1 = 4 ∧ vp_in (x3 + 1) (hs h59 a0).2 ∧ vp_in (x3 + 2) (hs h59 a0).2 ∧ (hs h59 a2).1 = 30 ∧ AC w mX10_putJoint 0 0 (rI fun r60 h60 => ((r59 = r60 → AW w mL_law 600000 7302250 (rI Q) 380 21096 18 [some (.ref a0), some (.ref a1), some (.ref a2), some (.int (x3 + 6))] [] h60) ∧ (¬ r59 = r60 → Q 0 h60))) [.ref a2, .int (hI h59 a0 (x3 + 1).toNatClampNeg), .int (hI h59 a0 (x3 + 2).toNatClampNeg)] h59) [.ref a1, .int (hI h a0 (x3 + 1).toNatClampNeg), .int (hI h a0 (x3 + 2).toNatClampNeg)] h) ∧ (((hI h a0 x3.toNatClampNeg) &&& 63).toInt = 28 → vp_in (x3 + 1) (hs h a0).2 ∧ vp_in (x3 + 2) (hs h a0).2 ∧ (hs h a1).1 = 29 ∧ AC w mX9_putRow 0 0 (rI fun r61 h61 => (hs h61 a0).1 = 4 ∧ vp_in (x3 + 1) (hs h61 a0).2 ∧ vp_in (x3 + 2) (hs h61 a0).2 ∧ (hs h61 a2).1 = 30 ∧ AC w mX10_putRow 0 0 (rI fun r62 h62 => ((r61 = r62 → AW w mL_law 600000 7302250 (rI Q) 380 21096 18 [some (.ref a0), some (.ref a1), some (.ref a2), some (.int (x3 + 6))] [] h62) ∧ (¬ r61 = r62 → Q 0 h62))) [.ref a2, .int (hI h61 a0 (x3 + 1).toNatClampNeg), .int (hI h61 a0 (x3 + 2).toNatClampNeg)] h61) [.ref a1, .int (hI h a0 (x3 + 1).toNatClampNeg), .int (hI h a0 (x3 + 2).toNatClampNeg)] h) ∧ (((hI h a0 x3.toNatClampNeg) &&& 63).toInt = 29 → vp_in (x3 + 1) (hs h a0).2 ∧ (hs h a1).1 = 29 ∧ AC w mX9_clear 0 0 (rI fun r63 h63 => (hs h63 a0).1 = 4 ∧ vp_in (x3 + 1) (hs h63 a0).2 ∧ (hs h63 a2).1 = 30 ∧ AC w mX10_clear 0 0 (rI fun r64 h64 => ((r63 = r64 → AW w mL_law 600000 7302250 (rI Q) 380 21096 18 [some (.ref a0), some (.ref a1), some (.ref a2), some (.int (x3 + 6))] [] h64) ∧ (¬ r63 = r64 → Q 0 h64))) [.ref a2, .int (hI h63 a0 (x3 + 1).toNatClampNeg)] h63) [.ref a1, .int (hI h a0 (x3 + 1).toNatClampNeg)] h) ∧ (((hI h a0 x3.toNatClampNeg) &&& 63).toInt = 30 → vp_in (x3 + 1) (hs h a0).2 ∧ (hs h a1).1 = 29 ∧ AC w mX9_sort 0 0 (rI fun r65 h65 => (hs h65 a0).1 = 4 ∧ vp_in (x3 + 1) (hs h65 a0).2 ∧ (hs h65 a2).1 = 30 ∧ AC w mX10_sort 0 0 (rI fun r66 h66 => ((r65 = r66 → AW w mL_law 600000 7302250 (rI Q) 380 21096 18 [some (.ref a0), some (.ref a1), some (.ref a2), some (.int (x3 + 6))] [] h66) ∧ (¬ r65 = r66 → Q 0 h66))) [.ref a2, .int (hI h65 a0 (x3 + 1).toNatClampNeg)] h65) [.ref a1, .int (hI h a0 (x3 + 1).toNatClampNeg)] h) ∧ (((hI h a0 x3.toNatClampNeg) &&& 63).toInt = 31 → vp_in (x3 + 1) (hs h a0).2 ∧ vp_in (x3 + 2) (hs h a0).2 ∧ vp_in (x3 + 3) (hs h a0).2 ∧ (hs h a1).1 = 29 ∧ AC w mX9_write 0 0 (rI fun r67 h67 => (hs h67 a0).1 = 4 ∧ vp_in (x3 + 1) (hs h67 a0).2 ∧ vp_in (x3 + 2) (hs h67 a0).2 ∧ vp_in (x3 + 3) (hs h67 a0).2 ∧ (hs h67 a2).1 = 30 ∧ AC w mX10_write 0 0 (rI fun r68 h68 => ((r67 = r68 → AW w mL_law 600000 7302250 (rI Q) 380 21096 18 [some (.ref a0), some (.ref a1), some (.ref a2), some (.int (x3 + 6))] [] h68) ∧ (¬ r67 = r68 → Q 0 h68))) [.ref a2, .int (hI h67 a0 (x3 + 1).toNatClampNeg), .int (hI h67 a0 (x3 + 2).toNatClampNeg), .int (hI h67 a0 (x3 + 3).toNatClampNeg)] h67) [.ref a1, .int (hI h a0 (x3 + 1).toNatClampNeg), .int (hI h a0 (x3 + 2).toNatClampNeg), .int (hI h a0 (x3 + 3).toNatClampNeg)] h) ∧ (((hI h a0 x3.toNatClampNeg) &&& 63).toInt = 32 → vp_in (x3 + 1) (hs h a0).2 ∧ vp_in (x3 + 2) (hs h a0).2 ∧ (hs h a1).1 = 29 ∧ AC w mX9_read 0 0 (rI fun r69 h69 => (hs h69 a0).1 = 4 ∧ vp_in (x3 + 1) (hs h69 a0).2 ∧ vp_in (x3 + 2) (hs h69 a0).2 ∧ (hs h69 a2).1 = 30 ∧ AC w mX10_read 0 0 (rI fun r70 h70 => ((r69 = r70 → AW w mL_law 600000 7302250 (rI Q) 380 21096 18 [some (.ref a0), some (.ref a1), some (.ref a2), some (.int (x3 + 6))] [] h70) ∧ (¬ r69 = r70 → Q 0 h70))) [.ref a2, .int (hI h69 a0 (x3 + 1).toNatClampNeg), .int (hI h69 a0 (x3 + 2).toNatClampNeg)] h69) [.ref a1, .int (hI h a0 (x3 + 1).toNatClampNeg), .int (hI h a0 (x3 + 2).toNatClampNeg)] h) ∧ (((hI h a0 x3.toNatClampNeg) &&& 63).toInt = 33 → vp_in (x3 + 1) (hs h a0).2 ∧ vp_in (x3 + 2) (hs h a0).2 ∧ vp_in (x3 + 3) (hs h a0).2 ∧ (hs h a1).1 = 29 ∧ AC w mX9_spell 0 0 (rI fun r71 h71 => (hs h71 a0).1 = 4 ∧ vp_in (x3 + 1) (hs h71 a0).2 ∧ vp_in (x3 + 2) (hs h71 a0).2 ∧ vp_in (x3 + 3) (hs h71 a0).2 ∧ (hs h71 a2).1 = 30 ∧ AC w mX10_spell 0 0 (rI fun r72 h72 => ((r71 = r72 → AW w mL_law 600000 7302250 (rI Q) 380 21096 18 [some (.ref a0), some (.ref a1), some (.ref a2), some (.int (x3 + 6))] [] h72) ∧ (¬ r71 = r72 → Q 0 h72))) [.ref a2, .int (hI h71 a0 (x3 + 1).toNatClampNeg), .int (hI h71 a0 (x3 + 2).toNatClampNeg), .int (hI h71 a0 (x3 + 3).toNatClampNeg)] h71) [.ref a1, .int (hI h a0 (x3 + 1).toNatClampNeg), .int (hI h a0 (x3 + 2).toNatClampNeg), .int (hI h a0 (x3 + 3).toNatClampNeg)] h) ∧ (((hI h a0 x3.toNatClampNeg) &&& 63).toInt = 34 → vp_in (x3 + 1) (hs h a0).2 ∧ (hs h a1).1 = 29 ∧ AC w mX9_rate 0 0 (rI fun r73 h73 => (hs h73 a0).1 = 4 ∧ vp_in (x3 + 1) (hs h73 a0).2 ∧ (hs h73 a2).1 = 30 ∧ AC w mX10_rate 0 0 (rI fun r74 h74 => ((r73 = r74 → AW w mL_law 600000 7302250 (rI Q) 380 21096 18 [some (.ref a0), some (.ref a1), some (.ref a2), some (.int (x3 + 6))] [] h74) ∧ (¬ r73 = r74 → Q 0 h74))) [.ref a2, .int (hI h73 a0 (x3 + 1).toNatClampNeg)] h73) [.ref a1, .int (hI h a0 (x3 + 1).toNatClampNeg)] h) ∧ (((hI h a0 x3.toNatClampNeg) &&& 63).toInt = 35 → (hs h a1).1 = 29 ∧ AC w mX9_code 0 0 (rI fun r75 h75 => (hs h75 a2).1 = 30 ∧ AC w mX10_code 0 0 (rI fun r76 h76 => ((r75 = r76 → AW w mL_law 600000 7302250 (rI Q) 380 21096 18 [some (.ref a0), some (.ref a1), some (.ref a2), some (.int (x3 + 6))] [] h76) ∧ (¬ r75 = r76 → Q 0 h76))) [.ref a2] h75) [.ref a1] h))))) : AW w mL_law 600000 7302250 (rI Q) 380 21096 18 [some (.ref a0), some (.ref a1), some (.ref a2), some (.int x3)] [] h := by
  refine aw_iload_n 19 dL_law_18 rfl rfl ?_
  refine aw_aload_n 20 dL_law_19 rfl rfl ?_
  obtain ⟨g1, H⟩ := H
  refine aw_alen 21 dL_law_20 rfl (Or.inr (Or.inl (shp g1))) rfl ?_
  refine aw_bipush (v := 6) 23 dL_law_21 rfl (by decide) ?_
  refine aw_isub 24 dL_law_23 rfl ?_
  refine aw_icmp_gt 1362 27 dL_law_24 rfl (by decide) (fun c2 => ?_) (fun c2 => ?_)
  · replace H := H.1 c2
    refine aw_iconst (v := 1) 1363 dL_law_1362 rfl (by decide) ?_
    exact aw_zreturn dL_law_1363 rfl (by decide) (by decide) (by decide) ⟨_, rfl, H⟩
  · replace H := H.2 c2
    refine aw_aload_n 28 dL_law_27 rfl rfl ?_
    refine aw_iload_n 29 dL_law_28 rfl rfl ?_
    obtain ⟨g3, H⟩ := H
    refine aw_iald 30 dL_law_29 rfl (Or.inr (shp g1)) g3 ?_
    refine aw_bipush (v := 63) 32 dL_law_30 rfl (by decide) ?_
    refine aw_iand 33 dL_law_32 rfl ?_
    by_cases c4 : (((hI h a0 x3.toNatClampNeg) &&& 63).toInt < 0 ∨ 35 < ((hI h a0 x3.toNatClampNeg) &&& 63).toInt)
    · refine aw_tableOut 1356 dL_law_33 c4 (by decide) ?_
      replace H := H.1 c4
      refine aw_iinc (y := 6) (loc' := [some (.ref a0), some (.ref a1), some (.ref a2), some (.int (x3 + 6))]) 1359 dL_law_1356 rfl (by decide) rfl (by decide) rfl ?_
      refine aw_goto 18 dL_law_1359 (by decide) ?_
      exact H
    · replace H := H.2
      have c4a : ¬ ((hI h a0 x3.toNatClampNeg) &&& 63).toInt < 0 := fun z => c4 (Or.inl z)
      have c4b : ¬ 35 < ((hI h a0 x3.toNatClampNeg) &&& 63).toInt := fun z => c4 (Or.inr z)
      rcases (show ((hI h a0 x3.toNatClampNeg) &&& 63).toInt = 0 ∨ ((hI h a0 x3.toNatClampNeg) &&& 63).toInt = 1 ∨ ((hI h a0 x3.toNatClampNeg) &&& 63).toInt = 2 ∨ ((hI h a0 x3.toNatClampNeg) &&& 63).toInt = 3 ∨ ((hI h a0 x3.toNatClampNeg) &&& 63).toInt = 4 ∨ ((hI h a0 x3.toNatClampNeg) &&& 63).toInt = 5 ∨ ((hI h a0 x3.toNatClampNeg) &&& 63).toInt = 6 ∨ ((hI h a0 x3.toNatClampNeg) &&& 63).toInt = 7 ∨ ((hI h a0 x3.toNatClampNeg) &&& 63).toInt = 8 ∨ ((hI h a0 x3.toNatClampNeg) &&& 63).toInt = 9 ∨ ((hI h a0 x3.toNatClampNeg) &&& 63).toInt = 10 ∨ ((hI h a0 x3.toNatClampNeg) &&& 63).toInt = 11 ∨ ((hI h a0 x3.toNatClampNeg) &&& 63).toInt = 12 ∨ ((hI h a0 x3.toNatClampNeg) &&& 63).toInt = 13 ∨ ((hI h a0 x3.toNatClampNeg) &&& 63).toInt = 14 ∨ ((hI h a0 x3.toNatClampNeg) &&& 63).toInt = 15 ∨ ((hI h a0 x3.toNatClampNeg) &&& 63).toInt = 16 ∨ ((hI h a0 x3.toNatClampNeg) &&& 63).toInt = 17 ∨ ((hI h a0 x3.toNatClampNeg) &&& 63).toInt = 18 ∨ ((hI h a0 x3.toNatClampNeg) &&& 63).toInt = 19 ∨ ((hI h a0 x3.toNatClampNeg) &&& 63).toInt = 20 ∨ ((hI h a0 x3.toNatClampNeg) &&& 63).toInt = 21 ∨ ((hI h a0 x3.toNatClampNeg) &&& 63).toInt = 22 ∨ ((hI h a0 x3.toNatClampNeg) &&& 63).toInt = 23 ∨ ((hI h a0 x3.toNatClampNeg) &&& 63).toInt = 24 ∨ ((hI h a0 x3.toNatClampNeg) &&& 63).toInt = 25 ∨ ((hI h a0 x3.toNatClampNeg) &&& 63).toInt = 26 ∨ ((hI h a0 x3.toNatClampNeg) &&& 63).toInt = 27 ∨ ((hI h a0 x3.toNatClampNeg) &&& 63).toInt = 28 ∨ ((hI h a0 x3.toNatClampNeg) &&& 63).toInt = 29 ∨ ((hI h a0 x3.toNatClampNeg) &&& 63).toInt = 30 ∨ ((hI h a0 x3.toNatClampNeg) &&& 63).toInt = 31 ∨ ((hI h a0 x3.toNatClampNeg) &&& 63).toInt = 32 ∨ ((hI h a0 x3.toNatClampNeg) &&& 63).toInt = 33 ∨ ((hI h a0 x3.toNatClampNeg) &&& 63).toInt = 34 ∨ ((hI h a0 x3.toNatClampNeg) &&& 63).toInt = 35 by omega) with c4e | c4e | c4e | c4e | c4e | c4e | c4e | c4e | c4e | c4e | c4e | c4e | c4e | c4e | c4e | c4e | c4e | c4e | c4e | c4e | c4e | c4e | c4e | c4e | c4e | c4e | c4e | c4e | c4e | c4e | c4e | c4e | c4e | c4e | c4e | c4e
      · refine aw_tableIn 192 dL_law_33 c4a c4b (by rw [c4e]; rfl) (by decide) ?_
        replace H := H.1 c4e
        refine aw_aload_n 193 dL_law_192 rfl rfl ?_
        refine aw_aload_n 194 dL_law_193 rfl rfl ?_
        refine aw_iload_n 195 dL_law_194 rfl rfl ?_
        refine aw_iconst (v := 1) 196 dL_law_195 rfl (by decide) ?_
        refine aw_iadd 197 dL_law_196 rfl ?_
        obtain ⟨g5, H⟩ := H
        refine aw_iald 198 dL_law_197 rfl (Or.inr (shp g1)) g5 ?_
        refine aw_aload_n 199 dL_law_198 rfl rfl ?_
        refine aw_iload_n 200 dL_law_199 rfl rfl ?_
        refine aw_iconst (v := 2) 201 dL_law_200 rfl (by decide) ?_
        refine aw_iadd 202 dL_law_201 rfl ?_
        obtain ⟨g6, H⟩ := H
        refine aw_iald 203 dL_law_202 rfl (Or.inr (shp g1)) g6 ?_
        refine aw_aload_n 204 dL_law_203 rfl rfl ?_
        refine aw_iload_n 205 dL_law_204 rfl rfl ?_
        refine aw_iconst (v := 3) 206 dL_law_205 rfl (by decide) ?_
        refine aw_iadd 207 dL_law_206 rfl ?_
        obtain ⟨g7, H⟩ := H
        refine aw_iald 208 dL_law_207 rfl (Or.inr (shp g1)) g7 ?_
        refine aw_aload_n 209 dL_law_208 rfl rfl ?_
        refine aw_iload_n 210 dL_law_209 rfl rfl ?_
        refine aw_iconst (v := 4) 211 dL_law_210 rfl (by decide) ?_
        refine aw_iadd 212 dL_law_211 rfl ?_
        obtain ⟨g8, H⟩ := H
        refine aw_iald 213 dL_law_212 rfl (Or.inr (shp g1)) g8 ?_
        refine aw_aload_n 214 dL_law_213 rfl rfl ?_
        refine aw_iload_n 215 dL_law_214 rfl rfl ?_
        refine aw_iconst (v := 5) 216 dL_law_215 rfl (by decide) ?_
        refine aw_iadd 217 dL_law_216 rfl ?_
        obtain ⟨g9, H⟩ := H
        refine aw_iald 218 dL_law_217 rfl (Or.inr (shp g1)) g9 ?_
        obtain ⟨g10, H⟩ := H
        refine aw_callV (stk := []) (ci := 9) [.int (hI h a0 (x3 + 1).toNatClampNeg), .int (hI h a0 (x3 + 2).toNatClampNeg), .int (hI h a0 (x3 + 3).toNatClampNeg), .int (hI h a0 (x3 + 4).toNatClampNeg), .int (hI h a0 (x3 + 5).toNatClampNeg)] 221 dL_law_218 rfl mv_L_13 ⟨by decide, by decide⟩ g10 (by intro r hr; cases hr; rfl) rfl rfl (by simp [Value.category]) (by decide) H ?_
        rintro _ h1 ⟨r1, rfl, H⟩
        refine aw_aload_n 222 dL_law_221 rfl rfl ?_
        refine aw_aload_n 223 dL_law_222 rfl rfl ?_
        refine aw_iload_n 224 dL_law_223 rfl rfl ?_
        refine aw_iconst (v := 1) 225 dL_law_224 rfl (by decide) ?_
        refine aw_iadd 226 dL_law_225 rfl ?_
        obtain ⟨g11, H⟩ := H
        obtain ⟨g12, H⟩ := H
        refine aw_iald 227 dL_law_226 rfl (Or.inr (shp g11)) g12 ?_
        refine aw_aload_n 228 dL_law_227 rfl rfl ?_
        refine aw_iload_n 229 dL_law_228 rfl rfl ?_
        refine aw_iconst (v := 2) 230 dL_law_229 rfl (by decide) ?_
        refine aw_iadd 231 dL_law_230 rfl ?_
        obtain ⟨g13, H⟩ := H
        refine aw_iald 232 dL_law_231 rfl (Or.inr (shp g11)) g13 ?_
        refine aw_aload_n 233 dL_law_232 rfl rfl ?_
        refine aw_iload_n 234 dL_law_233 rfl rfl ?_
        refine aw_iconst (v := 3) 235 dL_law_234 rfl (by decide) ?_
        refine aw_iadd 236 dL_law_235 rfl ?_
        obtain ⟨g14, H⟩ := H
        refine aw_iald 237 dL_law_236 rfl (Or.inr (shp g11)) g14 ?_
        refine aw_aload_n 238 dL_law_237 rfl rfl ?_
        refine aw_iload_n 239 dL_law_238 rfl rfl ?_
        refine aw_iconst (v := 4) 240 dL_law_239 rfl (by decide) ?_
        refine aw_iadd 241 dL_law_240 rfl ?_
        obtain ⟨g15, H⟩ := H
        refine aw_iald 242 dL_law_241 rfl (Or.inr (shp g11)) g15 ?_
        refine aw_aload_n 243 dL_law_242 rfl rfl ?_
        refine aw_iload_n 244 dL_law_243 rfl rfl ?_
        refine aw_iconst (v := 5) 245 dL_law_244 rfl (by decide) ?_
        refine aw_iadd 246 dL_law_245 rfl ?_
        obtain ⟨g16, H⟩ := H
        refine aw_iald 247 dL_law_246 rfl (Or.inr (shp g11)) g16 ?_
        obtain ⟨g17, H⟩ := H
        refine aw_callV (stk := [.int r1]) (ci := 10) [.int (hI h1 a0 (x3 + 1).toNatClampNeg), .int (hI h1 a0 (x3 + 2).toNatClampNeg), .int (hI h1 a0 (x3 + 3).toNatClampNeg), .int (hI h1 a0 (x3 + 4).toNatClampNeg), .int (hI h1 a0 (x3 + 5).toNatClampNeg)] 250 dL_law_247 rfl mv_L_17 ⟨by decide, by decide⟩ g17 (by intro r hr; cases hr; rfl) rfl rfl (by simp [Value.category]) (by decide) H ?_
        rintro _ h2 ⟨r2, rfl, H⟩
        refine aw_icmp_eq 1356 253 dL_law_250 rfl (by decide) (fun c18 => ?_) (fun c18 => ?_)
        · replace H := H.1 c18
          refine aw_iinc (y := 6) (loc' := [some (.ref a0), some (.ref a1), some (.ref a2), some (.int (x3 + 6))]) 1359 dL_law_1356 rfl (by decide) rfl (by decide) rfl ?_
          refine aw_goto 18 dL_law_1359 (by decide) ?_
          exact H
        · replace H := H.2 c18
          refine aw_iconst (v := 0) 254 dL_law_253 rfl (by decide) ?_
          exact aw_zreturn dL_law_254 rfl (by decide) (by decide) (by decide) ⟨_, rfl, H⟩
      · refine aw_tableIn 255 dL_law_33 c4a c4b (by rw [c4e]; rfl) (by decide) ?_
        replace H := H.2.1 c4e
        refine aw_aload_n 256 dL_law_255 rfl rfl ?_
        refine aw_aload_n 257 dL_law_256 rfl rfl ?_
        refine aw_iload_n 258 dL_law_257 rfl rfl ?_
        refine aw_iconst (v := 1) 259 dL_law_258 rfl (by decide) ?_
        refine aw_iadd 260 dL_law_259 rfl ?_
        obtain ⟨g19, H⟩ := H
        refine aw_iald 261 dL_law_260 rfl (Or.inr (shp g1)) g19 ?_
        obtain ⟨g20, H⟩ := H
        refine aw_callV (stk := []) (ci := 9) [.int (hI h a0 (x3 + 1).toNatClampNeg)] 264 dL_law_261 rfl mv_L_18 ⟨by decide, by decide⟩ g20 (by intro r hr; cases hr; rfl) rfl rfl (by simp [Value.category]) (by decide) H ?_
        rintro _ h3 ⟨r3, rfl, H⟩
        refine aw_aload_n 265 dL_law_264 rfl rfl ?_
        refine aw_aload_n 266 dL_law_265 rfl rfl ?_
        refine aw_iload_n 267 dL_law_266 rfl rfl ?_
        refine aw_iconst (v := 1) 268 dL_law_267 rfl (by decide) ?_
        refine aw_iadd 269 dL_law_268 rfl ?_
        obtain ⟨g21, H⟩ := H
        obtain ⟨g22, H⟩ := H
        refine aw_iald 270 dL_law_269 rfl (Or.inr (shp g21)) g22 ?_
        obtain ⟨g23, H⟩ := H
        refine aw_callV (stk := [.int r3]) (ci := 10) [.int (hI h3 a0 (x3 + 1).toNatClampNeg)] 273 dL_law_270 rfl mv_L_22 ⟨by decide, by decide⟩ g23 (by intro r hr; cases hr; rfl) rfl rfl (by simp [Value.category]) (by decide) H ?_
        rintro _ h4 ⟨r4, rfl, H⟩
        refine aw_icmp_eq 1356 276 dL_law_273 rfl (by decide) (fun c24 => ?_) (fun c24 => ?_)
        · replace H := H.1 c24
          refine aw_iinc (y := 6) (loc' := [some (.ref a0), some (.ref a1), some (.ref a2), some (.int (x3 + 6))]) 1359 dL_law_1356 rfl (by decide) rfl (by decide) rfl ?_
          refine aw_goto 18 dL_law_1359 (by decide) ?_
          exact H
        · replace H := H.2 c24
          refine aw_iconst (v := 0) 277 dL_law_276 rfl (by decide) ?_
          exact aw_zreturn dL_law_277 rfl (by decide) (by decide) (by decide) ⟨_, rfl, H⟩
      · refine aw_tableIn 278 dL_law_33 c4a c4b (by rw [c4e]; rfl) (by decide) ?_
        replace H := H.2.2.1 c4e
        refine aw_aload_n 279 dL_law_278 rfl rfl ?_
        obtain ⟨g25, H⟩ := H
        refine aw_callV (stk := []) (ci := 9) [] 282 dL_law_279 rfl mv_L_23 ⟨by decide, by decide⟩ g25 (by intro r hr; cases hr; rfl) rfl rfl (by simp [Value.category]) (by decide) H ?_
        rintro _ h5 ⟨r5, rfl, H⟩
        refine aw_aload_n 283 dL_law_282 rfl rfl ?_
        obtain ⟨g26, H⟩ := H
        refine aw_callV (stk := [.int r5]) (ci := 10) [] 286 dL_law_283 rfl mv_L_27 ⟨by decide, by decide⟩ g26 (by intro r hr; cases hr; rfl) rfl rfl (by simp [Value.category]) (by decide) H ?_
        rintro _ h6 ⟨r6, rfl, H⟩
        refine aw_icmp_eq 1356 289 dL_law_286 rfl (by decide) (fun c27 => ?_) (fun c27 => ?_)
        · replace H := H.1 c27
          refine aw_iinc (y := 6) (loc' := [some (.ref a0), some (.ref a1), some (.ref a2), some (.int (x3 + 6))]) 1359 dL_law_1356 rfl (by decide) rfl (by decide) rfl ?_
          refine aw_goto 18 dL_law_1359 (by decide) ?_
          exact H
        · replace H := H.2 c27
          refine aw_iconst (v := 0) 290 dL_law_289 rfl (by decide) ?_
          exact aw_zreturn dL_law_290 rfl (by decide) (by decide) (by decide) ⟨_, rfl, H⟩
      · refine aw_tableIn 291 dL_law_33 c4a c4b (by rw [c4e]; rfl) (by decide) ?_
        replace H := H.2.2.2.1 c4e
        refine aw_aload_n 292 dL_law_291 rfl rfl ?_
        refine aw_aload_n 293 dL_law_292 rfl rfl ?_
        refine aw_iload_n 294 dL_law_293 rfl rfl ?_
        refine aw_iconst (v := 1) 295 dL_law_294 rfl (by decide) ?_
        refine aw_iadd 296 dL_law_295 rfl ?_
        obtain ⟨g28, H⟩ := H
        refine aw_iald 297 dL_law_296 rfl (Or.inr (shp g1)) g28 ?_
        obtain ⟨g29, H⟩ := H
        refine aw_callV (stk := []) (ci := 9) [.int (hI h a0 (x3 + 1).toNatClampNeg)] 300 dL_law_297 rfl mv_L_28 ⟨by decide, by decide⟩ g29 (by intro r hr; cases hr; rfl) rfl rfl (by simp [Value.category]) (by decide) H ?_
        rintro _ h7 ⟨r7, rfl, H⟩
        refine aw_aload_n 301 dL_law_300 rfl rfl ?_
        refine aw_aload_n 302 dL_law_301 rfl rfl ?_
        refine aw_iload_n 303 dL_law_302 rfl rfl ?_
        refine aw_iconst (v := 1) 304 dL_law_303 rfl (by decide) ?_
        refine aw_iadd 305 dL_law_304 rfl ?_
        obtain ⟨g30, H⟩ := H
        obtain ⟨g31, H⟩ := H
        refine aw_iald 306 dL_law_305 rfl (Or.inr (shp g30)) g31 ?_
        obtain ⟨g32, H⟩ := H
        refine aw_callV (stk := [.int r7]) (ci := 10) [.int (hI h7 a0 (x3 + 1).toNatClampNeg)] 309 dL_law_306 rfl mv_L_31 ⟨by decide, by decide⟩ g32 (by intro r hr; cases hr; rfl) rfl rfl (by simp [Value.category]) (by decide) H ?_
        rintro _ h8 ⟨r8, rfl, H⟩
        refine aw_icmp_eq 1356 312 dL_law_309 rfl (by decide) (fun c33 => ?_) (fun c33 => ?_)
        · replace H := H.1 c33
          refine aw_iinc (y := 6) (loc' := [some (.ref a0), some (.ref a1), some (.ref a2), some (.int (x3 + 6))]) 1359 dL_law_1356 rfl (by decide) rfl (by decide) rfl ?_
          refine aw_goto 18 dL_law_1359 (by decide) ?_
          exact H
        · replace H := H.2 c33
          refine aw_iconst (v := 0) 313 dL_law_312 rfl (by decide) ?_
          exact aw_zreturn dL_law_313 rfl (by decide) (by decide) (by decide) ⟨_, rfl, H⟩
      · refine aw_tableIn 314 dL_law_33 c4a c4b (by rw [c4e]; rfl) (by decide) ?_
        replace H := H.2.2.2.2.1 c4e
        refine aw_aload_n 315 dL_law_314 rfl rfl ?_
        refine aw_aload_n 316 dL_law_315 rfl rfl ?_
        refine aw_iload_n 317 dL_law_316 rfl rfl ?_
        refine aw_iconst (v := 1) 318 dL_law_317 rfl (by decide) ?_
        refine aw_iadd 319 dL_law_318 rfl ?_
        obtain ⟨g34, H⟩ := H
        refine aw_iald 320 dL_law_319 rfl (Or.inr (shp g1)) g34 ?_
        refine aw_aload_n 321 dL_law_320 rfl rfl ?_
        refine aw_iload_n 322 dL_law_321 rfl rfl ?_
        refine aw_iconst (v := 2) 323 dL_law_322 rfl (by decide) ?_
        refine aw_iadd 324 dL_law_323 rfl ?_
        obtain ⟨g35, H⟩ := H
        refine aw_iald 325 dL_law_324 rfl (Or.inr (shp g1)) g35 ?_
        obtain ⟨g36, H⟩ := H
        refine aw_callV (stk := []) (ci := 9) [.int (hI h a0 (x3 + 1).toNatClampNeg), .int (hI h a0 (x3 + 2).toNatClampNeg)] 328 dL_law_325 rfl mv_L_32 ⟨by decide, by decide⟩ g36 (by intro r hr; cases hr; rfl) rfl rfl (by simp [Value.category]) (by decide) H ?_
        rintro _ h9 ⟨r9, rfl, H⟩
        refine aw_aload_n 329 dL_law_328 rfl rfl ?_
        refine aw_aload_n 330 dL_law_329 rfl rfl ?_
        refine aw_iload_n 331 dL_law_330 rfl rfl ?_
        refine aw_iconst (v := 1) 332 dL_law_331 rfl (by decide) ?_
        refine aw_iadd 333 dL_law_332 rfl ?_
        obtain ⟨g37, H⟩ := H
        obtain ⟨g38, H⟩ := H
        refine aw_iald 334 dL_law_333 rfl (Or.inr (shp g37)) g38 ?_
        refine aw_aload_n 335 dL_law_334 rfl rfl ?_
        refine aw_iload_n 336 dL_law_335 rfl rfl ?_
        refine aw_iconst (v := 2) 337 dL_law_336 rfl (by decide) ?_
        refine aw_iadd 338 dL_law_337 rfl ?_
        obtain ⟨g39, H⟩ := H
        refine aw_iald 339 dL_law_338 rfl (Or.inr (shp g37)) g39 ?_
        obtain ⟨g40, H⟩ := H
        refine aw_callV (stk := [.int r9]) (ci := 10) [.int (hI h9 a0 (x3 + 1).toNatClampNeg), .int (hI h9 a0 (x3 + 2).toNatClampNeg)] 342 dL_law_339 rfl mv_L_36 ⟨by decide, by decide⟩ g40 (by intro r hr; cases hr; rfl) rfl rfl (by simp [Value.category]) (by decide) H ?_
        rintro _ h10 ⟨r10, rfl, H⟩
        refine aw_icmp_eq 1356 345 dL_law_342 rfl (by decide) (fun c41 => ?_) (fun c41 => ?_)
        · replace H := H.1 c41
          refine aw_iinc (y := 6) (loc' := [some (.ref a0), some (.ref a1), some (.ref a2), some (.int (x3 + 6))]) 1359 dL_law_1356 rfl (by decide) rfl (by decide) rfl ?_
          refine aw_goto 18 dL_law_1359 (by decide) ?_
          exact H
        · replace H := H.2 c41
          refine aw_iconst (v := 0) 346 dL_law_345 rfl (by decide) ?_
          exact aw_zreturn dL_law_346 rfl (by decide) (by decide) (by decide) ⟨_, rfl, H⟩
      · refine aw_tableIn 347 dL_law_33 c4a c4b (by rw [c4e]; rfl) (by decide) ?_
        replace H := H.2.2.2.2.2.1 c4e
        refine aw_aload_n 348 dL_law_347 rfl rfl ?_
        refine aw_aload_n 349 dL_law_348 rfl rfl ?_
        refine aw_iload_n 350 dL_law_349 rfl rfl ?_
        refine aw_iconst (v := 1) 351 dL_law_350 rfl (by decide) ?_
        refine aw_iadd 352 dL_law_351 rfl ?_
        obtain ⟨g42, H⟩ := H
        refine aw_iald 353 dL_law_352 rfl (Or.inr (shp g1)) g42 ?_
        refine aw_aload_n 354 dL_law_353 rfl rfl ?_
        refine aw_iload_n 355 dL_law_354 rfl rfl ?_
        refine aw_iconst (v := 2) 356 dL_law_355 rfl (by decide) ?_
        refine aw_iadd 357 dL_law_356 rfl ?_
        obtain ⟨g43, H⟩ := H
        refine aw_iald 358 dL_law_357 rfl (Or.inr (shp g1)) g43 ?_
        refine aw_aload_n 359 dL_law_358 rfl rfl ?_
        refine aw_iload_n 360 dL_law_359 rfl rfl ?_
        refine aw_iconst (v := 3) 361 dL_law_360 rfl (by decide) ?_
        refine aw_iadd 362 dL_law_361 rfl ?_
        obtain ⟨g44, H⟩ := H
        refine aw_iald 363 dL_law_362 rfl (Or.inr (shp g1)) g44 ?_
        obtain ⟨g45, H⟩ := H
        refine aw_callV (stk := []) (ci := 9) [.int (hI h a0 (x3 + 1).toNatClampNeg), .int (hI h a0 (x3 + 2).toNatClampNeg), .int (hI h a0 (x3 + 3).toNatClampNeg)] 366 dL_law_363 rfl mv_L_37 ⟨by decide, by decide⟩ g45 (by intro r hr; cases hr; rfl) rfl rfl (by simp [Value.category]) (by decide) H ?_
        rintro _ h11 ⟨r11, rfl, H⟩
        refine aw_aload_n 367 dL_law_366 rfl rfl ?_
        refine aw_aload_n 368 dL_law_367 rfl rfl ?_
        refine aw_iload_n 369 dL_law_368 rfl rfl ?_
        refine aw_iconst (v := 1) 370 dL_law_369 rfl (by decide) ?_
        refine aw_iadd 371 dL_law_370 rfl ?_
        obtain ⟨g46, H⟩ := H
        obtain ⟨g47, H⟩ := H
        refine aw_iald 372 dL_law_371 rfl (Or.inr (shp g46)) g47 ?_
        refine aw_aload_n 373 dL_law_372 rfl rfl ?_
        refine aw_iload_n 374 dL_law_373 rfl rfl ?_
        refine aw_iconst (v := 2) 375 dL_law_374 rfl (by decide) ?_
        refine aw_iadd 376 dL_law_375 rfl ?_
        obtain ⟨g48, H⟩ := H
        refine aw_iald 377 dL_law_376 rfl (Or.inr (shp g46)) g48 ?_
        refine aw_aload_n 378 dL_law_377 rfl rfl ?_
        refine aw_iload_n 379 dL_law_378 rfl rfl ?_
        refine aw_iconst (v := 3) 380 dL_law_379 rfl (by decide) ?_
        refine aw_iadd 381 dL_law_380 rfl ?_
        obtain ⟨g49, H⟩ := H
        refine aw_iald 382 dL_law_381 rfl (Or.inr (shp g46)) g49 ?_
        obtain ⟨g50, H⟩ := H
        refine aw_callV (stk := [.int r11]) (ci := 10) [.int (hI h11 a0 (x3 + 1).toNatClampNeg), .int (hI h11 a0 (x3 + 2).toNatClampNeg), .int (hI h11 a0 (x3 + 3).toNatClampNeg)] 385 dL_law_382 rfl mv_L_41 ⟨by decide, by decide⟩ g50 (by intro r hr; cases hr; rfl) rfl rfl (by simp [Value.category]) (by decide) H ?_
        rintro _ h12 ⟨r12, rfl, H⟩
        refine aw_icmp_eq 1356 388 dL_law_385 rfl (by decide) (fun c51 => ?_) (fun c51 => ?_)
        · replace H := H.1 c51
          refine aw_iinc (y := 6) (loc' := [some (.ref a0), some (.ref a1), some (.ref a2), some (.int (x3 + 6))]) 1359 dL_law_1356 rfl (by decide) rfl (by decide) rfl ?_
          refine aw_goto 18 dL_law_1359 (by decide) ?_
          exact H
        · replace H := H.2 c51
          refine aw_iconst (v := 0) 389 dL_law_388 rfl (by decide) ?_
          exact aw_zreturn dL_law_389 rfl (by decide) (by decide) (by decide) ⟨_, rfl, H⟩
      · refine aw_tableIn 390 dL_law_33 c4a c4b (by rw [c4e]; rfl) (by decide) ?_
        replace H := H.2.2.2.2.2.2.1 c4e
        refine aw_aload_n 391 dL_law_390 rfl rfl ?_
        refine aw_aload_n 392 dL_law_391 rfl rfl ?_
        refine aw_iload_n 393 dL_law_392 rfl rfl ?_
        refine aw_iconst (v := 1) 394 dL_law_393 rfl (by decide) ?_
        refine aw_iadd 395 dL_law_394 rfl ?_
        obtain ⟨g52, H⟩ := H
        refine aw_iald 396 dL_law_395 rfl (Or.inr (shp g1)) g52 ?_
        refine aw_aload_n 397 dL_law_396 rfl rfl ?_
        refine aw_iload_n 398 dL_law_397 rfl rfl ?_
        refine aw_iconst (v := 2) 399 dL_law_398 rfl (by decide) ?_
        refine aw_iadd 400 dL_law_399 rfl ?_
        obtain ⟨g53, H⟩ := H
        refine aw_iald 401 dL_law_400 rfl (Or.inr (shp g1)) g53 ?_
        refine aw_aload_n 402 dL_law_401 rfl rfl ?_
        refine aw_iload_n 403 dL_law_402 rfl rfl ?_
        refine aw_iconst (v := 3) 404 dL_law_403 rfl (by decide) ?_
        refine aw_iadd 405 dL_law_404 rfl ?_
        obtain ⟨g54, H⟩ := H
        refine aw_iald 406 dL_law_405 rfl (Or.inr (shp g1)) g54 ?_
        obtain ⟨g55, H⟩ := H
        refine aw_callV (stk := []) (ci := 9) [.int (hI h a0 (x3 + 1).toNatClampNeg), .int (hI h a0 (x3 + 2).toNatClampNeg), .int (hI h a0 (x3 + 3).toNatClampNeg)] 409 dL_law_406 rfl mv_L_42 ⟨by decide, by decide⟩ g55 (by intro r hr; cases hr; rfl) rfl rfl (by simp [Value.category]) (by decide) H ?_
        rintro _ h13 ⟨r13, rfl, H⟩
        refine aw_aload_n 410 dL_law_409 rfl rfl ?_
        refine aw_aload_n 411 dL_law_410 rfl rfl ?_
        refine aw_iload_n 412 dL_law_411 rfl rfl ?_
        refine aw_iconst (v := 1) 413 dL_law_412 rfl (by decide) ?_
        refine aw_iadd 414 dL_law_413 rfl ?_
        obtain ⟨g56, H⟩ := H
        obtain ⟨g57, H⟩ := H
        refine aw_iald 415 dL_law_414 rfl (Or.inr (shp g56)) g57 ?_
        refine aw_aload_n 416 dL_law_415 rfl rfl ?_
        refine aw_iload_n 417 dL_law_416 rfl rfl ?_
        refine aw_iconst (v := 2) 418 dL_law_417 rfl (by decide) ?_
        refine aw_iadd 419 dL_law_418 rfl ?_
        obtain ⟨g58, H⟩ := H
        refine aw_iald 420 dL_law_419 rfl (Or.inr (shp g56)) g58 ?_
        refine aw_aload_n 421 dL_law_420 rfl rfl ?_
        refine aw_iload_n 422 dL_law_421 rfl rfl ?_
        refine aw_iconst (v := 3) 423 dL_law_422 rfl (by decide) ?_
        refine aw_iadd 424 dL_law_423 rfl ?_
        obtain ⟨g59, H⟩ := H
        refine aw_iald 425 dL_law_424 rfl (Or.inr (shp g56)) g59 ?_
        obtain ⟨g60, H⟩ := H
        refine aw_callV (stk := [.int r13]) (ci := 10) [.int (hI h13 a0 (x3 + 1).toNatClampNeg), .int (hI h13 a0 (x3 + 2).toNatClampNeg), .int (hI h13 a0 (x3 + 3).toNatClampNeg)] 428 dL_law_425 rfl mv_L_45 ⟨by decide, by decide⟩ g60 (by intro r hr; cases hr; rfl) rfl rfl (by simp [Value.category]) (by decide) H ?_
        rintro _ h14 ⟨r14, rfl, H⟩
        refine aw_icmp_eq 1356 431 dL_law_428 rfl (by decide) (fun c61 => ?_) (fun c61 => ?_)
        · replace H := H.1 c61
          refine aw_iinc (y := 6) (loc' := [some (.ref a0), some (.ref a1), some (.ref a2), some (.int (x3 + 6))]) 1359 dL_law_1356 rfl (by decide) rfl (by decide) rfl ?_
          refine aw_goto 18 dL_law_1359 (by decide) ?_
          exact H
        · replace H := H.2 c61
          refine aw_iconst (v := 0) 432 dL_law_431 rfl (by decide) ?_
          exact aw_zreturn dL_law_432 rfl (by decide) (by decide) (by decide) ⟨_, rfl, H⟩
      · refine aw_tableIn 433 dL_law_33 c4a c4b (by rw [c4e]; rfl) (by decide) ?_
        replace H := H.2.2.2.2.2.2.2.1 c4e
        refine aw_aload_n 434 dL_law_433 rfl rfl ?_
        refine aw_aload_n 435 dL_law_434 rfl rfl ?_
        refine aw_iload_n 436 dL_law_435 rfl rfl ?_
        refine aw_iconst (v := 1) 437 dL_law_436 rfl (by decide) ?_
        refine aw_iadd 438 dL_law_437 rfl ?_
        obtain ⟨g62, H⟩ := H
        refine aw_iald 439 dL_law_438 rfl (Or.inr (shp g1)) g62 ?_
        refine aw_aload_n 440 dL_law_439 rfl rfl ?_
        refine aw_iload_n 441 dL_law_440 rfl rfl ?_
        refine aw_iconst (v := 2) 442 dL_law_441 rfl (by decide) ?_
        refine aw_iadd 443 dL_law_442 rfl ?_
        obtain ⟨g63, H⟩ := H
        refine aw_iald 444 dL_law_443 rfl (Or.inr (shp g1)) g63 ?_
        refine aw_aload_n 445 dL_law_444 rfl rfl ?_
        refine aw_iload_n 446 dL_law_445 rfl rfl ?_
        refine aw_iconst (v := 3) 447 dL_law_446 rfl (by decide) ?_
        refine aw_iadd 448 dL_law_447 rfl ?_
        obtain ⟨g64, H⟩ := H
        refine aw_iald 449 dL_law_448 rfl (Or.inr (shp g1)) g64 ?_
        obtain ⟨g65, H⟩ := H
        refine aw_callV (stk := []) (ci := 9) [.int (hI h a0 (x3 + 1).toNatClampNeg), .int (hI h a0 (x3 + 2).toNatClampNeg), .int (hI h a0 (x3 + 3).toNatClampNeg)] 452 dL_law_449 rfl mv_L_46 ⟨by decide, by decide⟩ g65 (by intro r hr; cases hr; rfl) rfl rfl (by simp [Value.category]) (by decide) H ?_
        rintro _ h15 ⟨r15, rfl, H⟩
        refine aw_aload_n 453 dL_law_452 rfl rfl ?_
        refine aw_aload_n 454 dL_law_453 rfl rfl ?_
        refine aw_iload_n 455 dL_law_454 rfl rfl ?_
        refine aw_iconst (v := 1) 456 dL_law_455 rfl (by decide) ?_
        refine aw_iadd 457 dL_law_456 rfl ?_
        obtain ⟨g66, H⟩ := H
        obtain ⟨g67, H⟩ := H
        refine aw_iald 458 dL_law_457 rfl (Or.inr (shp g66)) g67 ?_
        refine aw_aload_n 459 dL_law_458 rfl rfl ?_
        refine aw_iload_n 460 dL_law_459 rfl rfl ?_
        refine aw_iconst (v := 2) 461 dL_law_460 rfl (by decide) ?_
        refine aw_iadd 462 dL_law_461 rfl ?_
        obtain ⟨g68, H⟩ := H
        refine aw_iald 463 dL_law_462 rfl (Or.inr (shp g66)) g68 ?_
        refine aw_aload_n 464 dL_law_463 rfl rfl ?_
        refine aw_iload_n 465 dL_law_464 rfl rfl ?_
        refine aw_iconst (v := 3) 466 dL_law_465 rfl (by decide) ?_
        refine aw_iadd 467 dL_law_466 rfl ?_
        obtain ⟨g69, H⟩ := H
        refine aw_iald 468 dL_law_467 rfl (Or.inr (shp g66)) g69 ?_
        obtain ⟨g70, H⟩ := H
        refine aw_callV (stk := [.int r15]) (ci := 10) [.int (hI h15 a0 (x3 + 1).toNatClampNeg), .int (hI h15 a0 (x3 + 2).toNatClampNeg), .int (hI h15 a0 (x3 + 3).toNatClampNeg)] 471 dL_law_468 rfl mv_L_49 ⟨by decide, by decide⟩ g70 (by intro r hr; cases hr; rfl) rfl rfl (by simp [Value.category]) (by decide) H ?_
        rintro _ h16 ⟨r16, rfl, H⟩
        refine aw_icmp_eq 1356 474 dL_law_471 rfl (by decide) (fun c71 => ?_) (fun c71 => ?_)
        · replace H := H.1 c71
          refine aw_iinc (y := 6) (loc' := [some (.ref a0), some (.ref a1), some (.ref a2), some (.int (x3 + 6))]) 1359 dL_law_1356 rfl (by decide) rfl (by decide) rfl ?_
          refine aw_goto 18 dL_law_1359 (by decide) ?_
          exact H
        · replace H := H.2 c71
          refine aw_iconst (v := 0) 475 dL_law_474 rfl (by decide) ?_
          exact aw_zreturn dL_law_475 rfl (by decide) (by decide) (by decide) ⟨_, rfl, H⟩
      · refine aw_tableIn 476 dL_law_33 c4a c4b (by rw [c4e]; rfl) (by decide) ?_
        replace H := H.2.2.2.2.2.2.2.2.1 c4e
        refine aw_aload_n 477 dL_law_476 rfl rfl ?_
        refine aw_aload_n 478 dL_law_477 rfl rfl ?_
        refine aw_iload_n 479 dL_law_478 rfl rfl ?_
        refine aw_iconst (v := 1) 480 dL_law_479 rfl (by decide) ?_
        refine aw_iadd 481 dL_law_480 rfl ?_
        obtain ⟨g72, H⟩ := H
        refine aw_iald 482 dL_law_481 rfl (Or.inr (shp g1)) g72 ?_
        refine aw_aload_n 483 dL_law_482 rfl rfl ?_
        refine aw_iload_n 484 dL_law_483 rfl rfl ?_
        refine aw_iconst (v := 2) 485 dL_law_484 rfl (by decide) ?_
        refine aw_iadd 486 dL_law_485 rfl ?_
        obtain ⟨g73, H⟩ := H
        refine aw_iald 487 dL_law_486 rfl (Or.inr (shp g1)) g73 ?_
        refine aw_aload_n 488 dL_law_487 rfl rfl ?_
        refine aw_iload_n 489 dL_law_488 rfl rfl ?_
        refine aw_iconst (v := 3) 490 dL_law_489 rfl (by decide) ?_
        refine aw_iadd 491 dL_law_490 rfl ?_
        obtain ⟨g74, H⟩ := H
        refine aw_iald 492 dL_law_491 rfl (Or.inr (shp g1)) g74 ?_
        refine aw_aload_n 493 dL_law_492 rfl rfl ?_
        refine aw_iload_n 494 dL_law_493 rfl rfl ?_
        refine aw_iconst (v := 4) 495 dL_law_494 rfl (by decide) ?_
        refine aw_iadd 496 dL_law_495 rfl ?_
        obtain ⟨g75, H⟩ := H
        refine aw_iald 497 dL_law_496 rfl (Or.inr (shp g1)) g75 ?_
        obtain ⟨g76, H⟩ := H
        refine aw_callV (stk := []) (ci := 9) [.int (hI h a0 (x3 + 1).toNatClampNeg), .int (hI h a0 (x3 + 2).toNatClampNeg), .int (hI h a0 (x3 + 3).toNatClampNeg), .int (hI h a0 (x3 + 4).toNatClampNeg)] 500 dL_law_497 rfl mv_L_50 ⟨by decide, by decide⟩ g76 (by intro r hr; cases hr; rfl) rfl rfl (by simp [Value.category]) (by decide) H ?_
        rintro _ h17 ⟨r17, rfl, H⟩
        refine aw_aload_n 501 dL_law_500 rfl rfl ?_
        refine aw_aload_n 502 dL_law_501 rfl rfl ?_
        refine aw_iload_n 503 dL_law_502 rfl rfl ?_
        refine aw_iconst (v := 1) 504 dL_law_503 rfl (by decide) ?_
        refine aw_iadd 505 dL_law_504 rfl ?_
        obtain ⟨g77, H⟩ := H
        obtain ⟨g78, H⟩ := H
        refine aw_iald 506 dL_law_505 rfl (Or.inr (shp g77)) g78 ?_
        refine aw_aload_n 507 dL_law_506 rfl rfl ?_
        refine aw_iload_n 508 dL_law_507 rfl rfl ?_
        refine aw_iconst (v := 2) 509 dL_law_508 rfl (by decide) ?_
        refine aw_iadd 510 dL_law_509 rfl ?_
        obtain ⟨g79, H⟩ := H
        refine aw_iald 511 dL_law_510 rfl (Or.inr (shp g77)) g79 ?_
        refine aw_aload_n 512 dL_law_511 rfl rfl ?_
        refine aw_iload_n 513 dL_law_512 rfl rfl ?_
        refine aw_iconst (v := 3) 514 dL_law_513 rfl (by decide) ?_
        refine aw_iadd 515 dL_law_514 rfl ?_
        obtain ⟨g80, H⟩ := H
        refine aw_iald 516 dL_law_515 rfl (Or.inr (shp g77)) g80 ?_
        refine aw_aload_n 517 dL_law_516 rfl rfl ?_
        refine aw_iload_n 518 dL_law_517 rfl rfl ?_
        refine aw_iconst (v := 4) 519 dL_law_518 rfl (by decide) ?_
        refine aw_iadd 520 dL_law_519 rfl ?_
        obtain ⟨g81, H⟩ := H
        refine aw_iald 521 dL_law_520 rfl (Or.inr (shp g77)) g81 ?_
        obtain ⟨g82, H⟩ := H
        refine aw_callV (stk := [.int r17]) (ci := 10) [.int (hI h17 a0 (x3 + 1).toNatClampNeg), .int (hI h17 a0 (x3 + 2).toNatClampNeg), .int (hI h17 a0 (x3 + 3).toNatClampNeg), .int (hI h17 a0 (x3 + 4).toNatClampNeg)] 524 dL_law_521 rfl mv_L_54 ⟨by decide, by decide⟩ g82 (by intro r hr; cases hr; rfl) rfl rfl (by simp [Value.category]) (by decide) H ?_
        rintro _ h18 ⟨r18, rfl, H⟩
        refine aw_icmp_eq 1356 527 dL_law_524 rfl (by decide) (fun c83 => ?_) (fun c83 => ?_)
        · replace H := H.1 c83
          refine aw_iinc (y := 6) (loc' := [some (.ref a0), some (.ref a1), some (.ref a2), some (.int (x3 + 6))]) 1359 dL_law_1356 rfl (by decide) rfl (by decide) rfl ?_
          refine aw_goto 18 dL_law_1359 (by decide) ?_
          exact H
        · replace H := H.2 c83
          refine aw_iconst (v := 0) 528 dL_law_527 rfl (by decide) ?_
          exact aw_zreturn dL_law_528 rfl (by decide) (by decide) (by decide) ⟨_, rfl, H⟩
      · refine aw_tableIn 529 dL_law_33 c4a c4b (by rw [c4e]; rfl) (by decide) ?_
        replace H := H.2.2.2.2.2.2.2.2.2.1 c4e
        refine aw_aload_n 530 dL_law_529 rfl rfl ?_
        refine aw_aload_n 531 dL_law_530 rfl rfl ?_
        refine aw_iload_n 532 dL_law_531 rfl rfl ?_
        refine aw_iconst (v := 1) 533 dL_law_532 rfl (by decide) ?_
        refine aw_iadd 534 dL_law_533 rfl ?_
        obtain ⟨g84, H⟩ := H
        refine aw_iald 535 dL_law_534 rfl (Or.inr (shp g1)) g84 ?_
        refine aw_aload_n 536 dL_law_535 rfl rfl ?_
        refine aw_iload_n 537 dL_law_536 rfl rfl ?_
        refine aw_iconst (v := 2) 538 dL_law_537 rfl (by decide) ?_
        refine aw_iadd 539 dL_law_538 rfl ?_
        obtain ⟨g85, H⟩ := H
        refine aw_iald 540 dL_law_539 rfl (Or.inr (shp g1)) g85 ?_
        obtain ⟨g86, H⟩ := H
        refine aw_callV (stk := []) (ci := 9) [.int (hI h a0 (x3 + 1).toNatClampNeg), .int (hI h a0 (x3 + 2).toNatClampNeg)] 543 dL_law_540 rfl mv_L_55 ⟨by decide, by decide⟩ g86 (by intro r hr; cases hr; rfl) rfl rfl (by simp [Value.category]) (by decide) H ?_
        rintro _ h19 ⟨r19, rfl, H⟩
        refine aw_aload_n 544 dL_law_543 rfl rfl ?_
        refine aw_aload_n 545 dL_law_544 rfl rfl ?_
        refine aw_iload_n 546 dL_law_545 rfl rfl ?_
        refine aw_iconst (v := 1) 547 dL_law_546 rfl (by decide) ?_
        refine aw_iadd 548 dL_law_547 rfl ?_
        obtain ⟨g87, H⟩ := H
        obtain ⟨g88, H⟩ := H
        refine aw_iald 549 dL_law_548 rfl (Or.inr (shp g87)) g88 ?_
        refine aw_aload_n 550 dL_law_549 rfl rfl ?_
        refine aw_iload_n 551 dL_law_550 rfl rfl ?_
        refine aw_iconst (v := 2) 552 dL_law_551 rfl (by decide) ?_
        refine aw_iadd 553 dL_law_552 rfl ?_
        obtain ⟨g89, H⟩ := H
        refine aw_iald 554 dL_law_553 rfl (Or.inr (shp g87)) g89 ?_
        obtain ⟨g90, H⟩ := H
        refine aw_callV (stk := [.int r19]) (ci := 10) [.int (hI h19 a0 (x3 + 1).toNatClampNeg), .int (hI h19 a0 (x3 + 2).toNatClampNeg)] 557 dL_law_554 rfl mv_L_58 ⟨by decide, by decide⟩ g90 (by intro r hr; cases hr; rfl) rfl rfl (by simp [Value.category]) (by decide) H ?_
        rintro _ h20 ⟨r20, rfl, H⟩
        refine aw_icmp_eq 1356 560 dL_law_557 rfl (by decide) (fun c91 => ?_) (fun c91 => ?_)
        · replace H := H.1 c91
          refine aw_iinc (y := 6) (loc' := [some (.ref a0), some (.ref a1), some (.ref a2), some (.int (x3 + 6))]) 1359 dL_law_1356 rfl (by decide) rfl (by decide) rfl ?_
          refine aw_goto 18 dL_law_1359 (by decide) ?_
          exact H
        · replace H := H.2 c91
          refine aw_iconst (v := 0) 561 dL_law_560 rfl (by decide) ?_
          exact aw_zreturn dL_law_561 rfl (by decide) (by decide) (by decide) ⟨_, rfl, H⟩
      · refine aw_tableIn 562 dL_law_33 c4a c4b (by rw [c4e]; rfl) (by decide) ?_
        replace H := H.2.2.2.2.2.2.2.2.2.2.1 c4e
        refine aw_aload_n 563 dL_law_562 rfl rfl ?_
        refine aw_aload_n 564 dL_law_563 rfl rfl ?_
        refine aw_iload_n 565 dL_law_564 rfl rfl ?_
        refine aw_iconst (v := 1) 566 dL_law_565 rfl (by decide) ?_
        refine aw_iadd 567 dL_law_566 rfl ?_
        obtain ⟨g92, H⟩ := H
        refine aw_iald 568 dL_law_567 rfl (Or.inr (shp g1)) g92 ?_
        obtain ⟨g93, H⟩ := H
        refine aw_callV (stk := []) (ci := 9) [.int (hI h a0 (x3 + 1).toNatClampNeg)] 571 dL_law_568 rfl mv_L_59 ⟨by decide, by decide⟩ g93 (by intro r hr; cases hr; rfl) rfl rfl (by simp [Value.category]) (by decide) H ?_
        rintro _ h21 ⟨r21, rfl, H⟩
        refine aw_aload_n 572 dL_law_571 rfl rfl ?_
        refine aw_aload_n 573 dL_law_572 rfl rfl ?_
        refine aw_iload_n 574 dL_law_573 rfl rfl ?_
        refine aw_iconst (v := 1) 575 dL_law_574 rfl (by decide) ?_
        refine aw_iadd 576 dL_law_575 rfl ?_
        obtain ⟨g94, H⟩ := H
        obtain ⟨g95, H⟩ := H
        refine aw_iald 577 dL_law_576 rfl (Or.inr (shp g94)) g95 ?_
        obtain ⟨g96, H⟩ := H
        refine aw_callV (stk := [.int r21]) (ci := 10) [.int (hI h21 a0 (x3 + 1).toNatClampNeg)] 580 dL_law_577 rfl mv_L_62 ⟨by decide, by decide⟩ g96 (by intro r hr; cases hr; rfl) rfl rfl (by simp [Value.category]) (by decide) H ?_
        rintro _ h22 ⟨r22, rfl, H⟩
        refine aw_icmp_eq 1356 583 dL_law_580 rfl (by decide) (fun c97 => ?_) (fun c97 => ?_)
        · replace H := H.1 c97
          refine aw_iinc (y := 6) (loc' := [some (.ref a0), some (.ref a1), some (.ref a2), some (.int (x3 + 6))]) 1359 dL_law_1356 rfl (by decide) rfl (by decide) rfl ?_
          refine aw_goto 18 dL_law_1359 (by decide) ?_
          exact H
        · replace H := H.2 c97
          refine aw_iconst (v := 0) 584 dL_law_583 rfl (by decide) ?_
          exact aw_zreturn dL_law_584 rfl (by decide) (by decide) (by decide) ⟨_, rfl, H⟩
      · refine aw_tableIn 585 dL_law_33 c4a c4b (by rw [c4e]; rfl) (by decide) ?_
        replace H := H.2.2.2.2.2.2.2.2.2.2.2.1 c4e
        refine aw_aload_n 586 dL_law_585 rfl rfl ?_
        refine aw_aload_n 587 dL_law_586 rfl rfl ?_
        refine aw_iload_n 588 dL_law_587 rfl rfl ?_
        refine aw_iconst (v := 1) 589 dL_law_588 rfl (by decide) ?_
        refine aw_iadd 590 dL_law_589 rfl ?_
        obtain ⟨g98, H⟩ := H
        refine aw_iald 591 dL_law_590 rfl (Or.inr (shp g1)) g98 ?_
        refine aw_if_eq 598 594 dL_law_591 rfl (by decide) (fun c99 => ?_) (fun c99 => ?_)
        · replace H := H.1 c99
          refine aw_iconst (v := 0) 599 dL_law_598 rfl (by decide) ?_
          obtain ⟨g100, H⟩ := H
          refine aw_callV (stk := []) (ci := 9) [.int 0] 602 dL_law_599 rfl mv_L_63 ⟨by decide, by decide⟩ g100 (by intro r hr; cases hr; rfl) rfl rfl (by simp [Value.category]) (by decide) H ?_
          rintro _ h23 ⟨r23, rfl, H⟩
          refine aw_aload_n 603 dL_law_602 rfl rfl ?_
          refine aw_aload_n 604 dL_law_603 rfl rfl ?_
          refine aw_iload_n 605 dL_law_604 rfl rfl ?_
          refine aw_iconst (v := 1) 606 dL_law_605 rfl (by decide) ?_
          refine aw_iadd 607 dL_law_606 rfl ?_
          obtain ⟨g101, H⟩ := H
          obtain ⟨g102, H⟩ := H
          refine aw_iald 608 dL_law_607 rfl (Or.inr (shp g101)) g102 ?_
          refine aw_if_eq 615 611 dL_law_608 rfl (by decide) (fun c103 => ?_) (fun c103 => ?_)
          · replace H := H.1 c103
            refine aw_iconst (v := 0) 616 dL_law_615 rfl (by decide) ?_
            obtain ⟨g104, H⟩ := H
            refine aw_callV (stk := [.int r23]) (ci := 10) [.int 0] 619 dL_law_616 rfl mv_L_67 ⟨by decide, by decide⟩ g104 (by intro r hr; cases hr; rfl) rfl rfl (by simp [Value.category]) (by decide) H ?_
            rintro _ h24 ⟨r24, rfl, H⟩
            refine aw_icmp_eq 1356 622 dL_law_619 rfl (by decide) (fun c105 => ?_) (fun c105 => ?_)
            · replace H := H.1 c105
              refine aw_iinc (y := 6) (loc' := [some (.ref a0), some (.ref a1), some (.ref a2), some (.int (x3 + 6))]) 1359 dL_law_1356 rfl (by decide) rfl (by decide) rfl ?_
              refine aw_goto 18 dL_law_1359 (by decide) ?_
              exact H
            · replace H := H.2 c105
              refine aw_iconst (v := 0) 623 dL_law_622 rfl (by decide) ?_
              exact aw_zreturn dL_law_623 rfl (by decide) (by decide) (by decide) ⟨_, rfl, H⟩
          · replace H := H.2 c103
            refine aw_iconst (v := 1) 612 dL_law_611 rfl (by decide) ?_
            refine aw_goto 616 dL_law_612 (by decide) ?_
            obtain ⟨g106, H⟩ := H
            refine aw_callV (stk := [.int r23]) (ci := 10) [.int 1] 619 dL_law_616 rfl mv_L_67 ⟨by decide, by decide⟩ g106 (by intro r hr; cases hr; rfl) rfl rfl (by simp [Value.category]) (by decide) H ?_
            rintro _ h25 ⟨r25, rfl, H⟩
            refine aw_icmp_eq 1356 622 dL_law_619 rfl (by decide) (fun c107 => ?_) (fun c107 => ?_)
            · replace H := H.1 c107
              refine aw_iinc (y := 6) (loc' := [some (.ref a0), some (.ref a1), some (.ref a2), some (.int (x3 + 6))]) 1359 dL_law_1356 rfl (by decide) rfl (by decide) rfl ?_
              refine aw_goto 18 dL_law_1359 (by decide) ?_
              exact H
            · replace H := H.2 c107
              refine aw_iconst (v := 0) 623 dL_law_622 rfl (by decide) ?_
              exact aw_zreturn dL_law_623 rfl (by decide) (by decide) (by decide) ⟨_, rfl, H⟩
        · replace H := H.2 c99
          refine aw_iconst (v := 1) 595 dL_law_594 rfl (by decide) ?_
          refine aw_goto 599 dL_law_595 (by decide) ?_
          obtain ⟨g108, H⟩ := H
          refine aw_callV (stk := []) (ci := 9) [.int 1] 602 dL_law_599 rfl mv_L_63 ⟨by decide, by decide⟩ g108 (by intro r hr; cases hr; rfl) rfl rfl (by simp [Value.category]) (by decide) H ?_
          rintro _ h26 ⟨r26, rfl, H⟩
          refine aw_aload_n 603 dL_law_602 rfl rfl ?_
          refine aw_aload_n 604 dL_law_603 rfl rfl ?_
          refine aw_iload_n 605 dL_law_604 rfl rfl ?_
          refine aw_iconst (v := 1) 606 dL_law_605 rfl (by decide) ?_
          refine aw_iadd 607 dL_law_606 rfl ?_
          obtain ⟨g109, H⟩ := H
          obtain ⟨g110, H⟩ := H
          refine aw_iald 608 dL_law_607 rfl (Or.inr (shp g109)) g110 ?_
          refine aw_if_eq 615 611 dL_law_608 rfl (by decide) (fun c111 => ?_) (fun c111 => ?_)
          · replace H := H.1 c111
            refine aw_iconst (v := 0) 616 dL_law_615 rfl (by decide) ?_
            obtain ⟨g112, H⟩ := H
            refine aw_callV (stk := [.int r26]) (ci := 10) [.int 0] 619 dL_law_616 rfl mv_L_67 ⟨by decide, by decide⟩ g112 (by intro r hr; cases hr; rfl) rfl rfl (by simp [Value.category]) (by decide) H ?_
            rintro _ h27 ⟨r27, rfl, H⟩
            refine aw_icmp_eq 1356 622 dL_law_619 rfl (by decide) (fun c113 => ?_) (fun c113 => ?_)
            · replace H := H.1 c113
              refine aw_iinc (y := 6) (loc' := [some (.ref a0), some (.ref a1), some (.ref a2), some (.int (x3 + 6))]) 1359 dL_law_1356 rfl (by decide) rfl (by decide) rfl ?_
              refine aw_goto 18 dL_law_1359 (by decide) ?_
              exact H
            · replace H := H.2 c113
              refine aw_iconst (v := 0) 623 dL_law_622 rfl (by decide) ?_
              exact aw_zreturn dL_law_623 rfl (by decide) (by decide) (by decide) ⟨_, rfl, H⟩
          · replace H := H.2 c111
            refine aw_iconst (v := 1) 612 dL_law_611 rfl (by decide) ?_
            refine aw_goto 616 dL_law_612 (by decide) ?_
            obtain ⟨g114, H⟩ := H
            refine aw_callV (stk := [.int r26]) (ci := 10) [.int 1] 619 dL_law_616 rfl mv_L_67 ⟨by decide, by decide⟩ g114 (by intro r hr; cases hr; rfl) rfl rfl (by simp [Value.category]) (by decide) H ?_
            rintro _ h28 ⟨r28, rfl, H⟩
            refine aw_icmp_eq 1356 622 dL_law_619 rfl (by decide) (fun c115 => ?_) (fun c115 => ?_)
            · replace H := H.1 c115
              refine aw_iinc (y := 6) (loc' := [some (.ref a0), some (.ref a1), some (.ref a2), some (.int (x3 + 6))]) 1359 dL_law_1356 rfl (by decide) rfl (by decide) rfl ?_
              refine aw_goto 18 dL_law_1359 (by decide) ?_
              exact H
            · replace H := H.2 c115
              refine aw_iconst (v := 0) 623 dL_law_622 rfl (by decide) ?_
              exact aw_zreturn dL_law_623 rfl (by decide) (by decide) (by decide) ⟨_, rfl, H⟩
      · refine aw_tableIn 624 dL_law_33 c4a c4b (by rw [c4e]; rfl) (by decide) ?_
        replace H := H.2.2.2.2.2.2.2.2.2.2.2.2.1 c4e
        refine aw_aload_n 625 dL_law_624 rfl rfl ?_
        obtain ⟨g116, H⟩ := H
        refine aw_callV (stk := []) (ci := 9) [] 628 dL_law_625 rfl mv_L_68 ⟨by decide, by decide⟩ g116 (by intro r hr; cases hr; rfl) rfl rfl (by simp [Value.category]) (by decide) H ?_
        rintro _ h29 ⟨r29, rfl, H⟩
        refine aw_aload_n 629 dL_law_628 rfl rfl ?_
        obtain ⟨g117, H⟩ := H
        refine aw_callV (stk := [.int r29]) (ci := 10) [] 632 dL_law_629 rfl mv_L_71 ⟨by decide, by decide⟩ g117 (by intro r hr; cases hr; rfl) rfl rfl (by simp [Value.category]) (by decide) H ?_
        rintro _ h30 ⟨r30, rfl, H⟩
        refine aw_icmp_eq 1356 635 dL_law_632 rfl (by decide) (fun c118 => ?_) (fun c118 => ?_)
        · replace H := H.1 c118
          refine aw_iinc (y := 6) (loc' := [some (.ref a0), some (.ref a1), some (.ref a2), some (.int (x3 + 6))]) 1359 dL_law_1356 rfl (by decide) rfl (by decide) rfl ?_
          refine aw_goto 18 dL_law_1359 (by decide) ?_
          exact H
        · replace H := H.2 c118
          refine aw_iconst (v := 0) 636 dL_law_635 rfl (by decide) ?_
          exact aw_zreturn dL_law_636 rfl (by decide) (by decide) (by decide) ⟨_, rfl, H⟩
      · refine aw_tableIn 637 dL_law_33 c4a c4b (by rw [c4e]; rfl) (by decide) ?_
        replace H := H.2.2.2.2.2.2.2.2.2.2.2.2.2.1 c4e
        refine aw_aload_n 638 dL_law_637 rfl rfl ?_
        refine aw_aload_n 639 dL_law_638 rfl rfl ?_
        refine aw_iload_n 640 dL_law_639 rfl rfl ?_
        refine aw_iconst (v := 1) 641 dL_law_640 rfl (by decide) ?_
        refine aw_iadd 642 dL_law_641 rfl ?_
        obtain ⟨g119, H⟩ := H
        refine aw_iald 643 dL_law_642 rfl (Or.inr (shp g1)) g119 ?_
        refine aw_aload_n 644 dL_law_643 rfl rfl ?_
        refine aw_iload_n 645 dL_law_644 rfl rfl ?_
        refine aw_iconst (v := 2) 646 dL_law_645 rfl (by decide) ?_
        refine aw_iadd 647 dL_law_646 rfl ?_
        obtain ⟨g120, H⟩ := H
        refine aw_iald 648 dL_law_647 rfl (Or.inr (shp g1)) g120 ?_
        obtain ⟨g121, H⟩ := H
        refine aw_callV (stk := []) (ci := 9) [.int (hI h a0 (x3 + 1).toNatClampNeg), .int (hI h a0 (x3 + 2).toNatClampNeg)] 651 dL_law_648 rfl mv_L_72 ⟨by decide, by decide⟩ g121 (by intro r hr; cases hr; rfl) rfl rfl (by simp [Value.category]) (by decide) H ?_
        rintro _ h31 ⟨r31, rfl, H⟩
        refine aw_aload_n 652 dL_law_651 rfl rfl ?_
        refine aw_aload_n 653 dL_law_652 rfl rfl ?_
        refine aw_iload_n 654 dL_law_653 rfl rfl ?_
        refine aw_iconst (v := 1) 655 dL_law_654 rfl (by decide) ?_
        refine aw_iadd 656 dL_law_655 rfl ?_
        obtain ⟨g122, H⟩ := H
        obtain ⟨g123, H⟩ := H
        refine aw_iald 657 dL_law_656 rfl (Or.inr (shp g122)) g123 ?_
        refine aw_aload_n 658 dL_law_657 rfl rfl ?_
        refine aw_iload_n 659 dL_law_658 rfl rfl ?_
        refine aw_iconst (v := 2) 660 dL_law_659 rfl (by decide) ?_
        refine aw_iadd 661 dL_law_660 rfl ?_
        obtain ⟨g124, H⟩ := H
        refine aw_iald 662 dL_law_661 rfl (Or.inr (shp g122)) g124 ?_
        obtain ⟨g125, H⟩ := H
        refine aw_callV (stk := [.int r31]) (ci := 10) [.int (hI h31 a0 (x3 + 1).toNatClampNeg), .int (hI h31 a0 (x3 + 2).toNatClampNeg)] 665 dL_law_662 rfl mv_L_75 ⟨by decide, by decide⟩ g125 (by intro r hr; cases hr; rfl) rfl rfl (by simp [Value.category]) (by decide) H ?_
        rintro _ h32 ⟨r32, rfl, H⟩
        refine aw_icmp_eq 1356 668 dL_law_665 rfl (by decide) (fun c126 => ?_) (fun c126 => ?_)
        · replace H := H.1 c126
          refine aw_iinc (y := 6) (loc' := [some (.ref a0), some (.ref a1), some (.ref a2), some (.int (x3 + 6))]) 1359 dL_law_1356 rfl (by decide) rfl (by decide) rfl ?_
          refine aw_goto 18 dL_law_1359 (by decide) ?_
          exact H
        · replace H := H.2 c126
          refine aw_iconst (v := 0) 669 dL_law_668 rfl (by decide) ?_
          exact aw_zreturn dL_law_669 rfl (by decide) (by decide) (by decide) ⟨_, rfl, H⟩
      · refine aw_tableIn 670 dL_law_33 c4a c4b (by rw [c4e]; rfl) (by decide) ?_
        replace H := H.2.2.2.2.2.2.2.2.2.2.2.2.2.2.1 c4e
        refine aw_aload_n 671 dL_law_670 rfl rfl ?_
        refine aw_aload_n 672 dL_law_671 rfl rfl ?_
        refine aw_iload_n 673 dL_law_672 rfl rfl ?_
        refine aw_iconst (v := 1) 674 dL_law_673 rfl (by decide) ?_
        refine aw_iadd 675 dL_law_674 rfl ?_
        obtain ⟨g127, H⟩ := H
        refine aw_iald 676 dL_law_675 rfl (Or.inr (shp g1)) g127 ?_
        refine aw_aload_n 677 dL_law_676 rfl rfl ?_
        refine aw_iload_n 678 dL_law_677 rfl rfl ?_
        refine aw_iconst (v := 2) 679 dL_law_678 rfl (by decide) ?_
        refine aw_iadd 680 dL_law_679 rfl ?_
        obtain ⟨g128, H⟩ := H
        refine aw_iald 681 dL_law_680 rfl (Or.inr (shp g1)) g128 ?_
        refine aw_aload_n 682 dL_law_681 rfl rfl ?_
        refine aw_iload_n 683 dL_law_682 rfl rfl ?_
        refine aw_iconst (v := 3) 684 dL_law_683 rfl (by decide) ?_
        refine aw_iadd 685 dL_law_684 rfl ?_
        obtain ⟨g129, H⟩ := H
        refine aw_iald 686 dL_law_685 rfl (Or.inr (shp g1)) g129 ?_
        obtain ⟨g130, H⟩ := H
        refine aw_callV (stk := []) (ci := 9) [.int (hI h a0 (x3 + 1).toNatClampNeg), .int (hI h a0 (x3 + 2).toNatClampNeg), .int (hI h a0 (x3 + 3).toNatClampNeg)] 689 dL_law_686 rfl mv_L_76 ⟨by decide, by decide⟩ g130 (by intro r hr; cases hr; rfl) rfl rfl (by simp [Value.category]) (by decide) H ?_
        rintro _ h33 ⟨r33, rfl, H⟩
        refine aw_aload_n 690 dL_law_689 rfl rfl ?_
        refine aw_aload_n 691 dL_law_690 rfl rfl ?_
        refine aw_iload_n 692 dL_law_691 rfl rfl ?_
        refine aw_iconst (v := 1) 693 dL_law_692 rfl (by decide) ?_
        refine aw_iadd 694 dL_law_693 rfl ?_
        obtain ⟨g131, H⟩ := H
        obtain ⟨g132, H⟩ := H
        refine aw_iald 695 dL_law_694 rfl (Or.inr (shp g131)) g132 ?_
        refine aw_aload_n 696 dL_law_695 rfl rfl ?_
        refine aw_iload_n 697 dL_law_696 rfl rfl ?_
        refine aw_iconst (v := 2) 698 dL_law_697 rfl (by decide) ?_
        refine aw_iadd 699 dL_law_698 rfl ?_
        obtain ⟨g133, H⟩ := H
        refine aw_iald 700 dL_law_699 rfl (Or.inr (shp g131)) g133 ?_
        refine aw_aload_n 701 dL_law_700 rfl rfl ?_
        refine aw_iload_n 702 dL_law_701 rfl rfl ?_
        refine aw_iconst (v := 3) 703 dL_law_702 rfl (by decide) ?_
        refine aw_iadd 704 dL_law_703 rfl ?_
        obtain ⟨g134, H⟩ := H
        refine aw_iald 705 dL_law_704 rfl (Or.inr (shp g131)) g134 ?_
        obtain ⟨g135, H⟩ := H
        refine aw_callV (stk := [.int r33]) (ci := 10) [.int (hI h33 a0 (x3 + 1).toNatClampNeg), .int (hI h33 a0 (x3 + 2).toNatClampNeg), .int (hI h33 a0 (x3 + 3).toNatClampNeg)] 708 dL_law_705 rfl mv_L_79 ⟨by decide, by decide⟩ g135 (by intro r hr; cases hr; rfl) rfl rfl (by simp [Value.category]) (by decide) H ?_
        rintro _ h34 ⟨r34, rfl, H⟩
        refine aw_icmp_eq 1356 711 dL_law_708 rfl (by decide) (fun c136 => ?_) (fun c136 => ?_)
        · replace H := H.1 c136
          refine aw_iinc (y := 6) (loc' := [some (.ref a0), some (.ref a1), some (.ref a2), some (.int (x3 + 6))]) 1359 dL_law_1356 rfl (by decide) rfl (by decide) rfl ?_
          refine aw_goto 18 dL_law_1359 (by decide) ?_
          exact H
        · replace H := H.2 c136
          refine aw_iconst (v := 0) 712 dL_law_711 rfl (by decide) ?_
          exact aw_zreturn dL_law_712 rfl (by decide) (by decide) (by decide) ⟨_, rfl, H⟩
      · refine aw_tableIn 713 dL_law_33 c4a c4b (by rw [c4e]; rfl) (by decide) ?_
        replace H := H.2.2.2.2.2.2.2.2.2.2.2.2.2.2.2.1 c4e
        refine aw_aload_n 714 dL_law_713 rfl rfl ?_
        refine aw_aload_n 715 dL_law_714 rfl rfl ?_
        refine aw_iload_n 716 dL_law_715 rfl rfl ?_
        refine aw_iconst (v := 1) 717 dL_law_716 rfl (by decide) ?_
        refine aw_iadd 718 dL_law_717 rfl ?_
        obtain ⟨g137, H⟩ := H
        refine aw_iald 719 dL_law_718 rfl (Or.inr (shp g1)) g137 ?_
        refine aw_aload_n 720 dL_law_719 rfl rfl ?_
        refine aw_iload_n 721 dL_law_720 rfl rfl ?_
        refine aw_iconst (v := 2) 722 dL_law_721 rfl (by decide) ?_
        refine aw_iadd 723 dL_law_722 rfl ?_
        obtain ⟨g138, H⟩ := H
        refine aw_iald 724 dL_law_723 rfl (Or.inr (shp g1)) g138 ?_
        obtain ⟨g139, H⟩ := H
        refine aw_callV (stk := []) (ci := 9) [.int (hI h a0 (x3 + 1).toNatClampNeg), .int (hI h a0 (x3 + 2).toNatClampNeg)] 727 dL_law_724 rfl mv_L_80 ⟨by decide, by decide⟩ g139 (by intro r hr; cases hr; rfl) rfl rfl (by simp [Value.category]) (by decide) H ?_
        rintro _ h35 ⟨r35, rfl, H⟩
        refine aw_aload_n 728 dL_law_727 rfl rfl ?_
        refine aw_aload_n 729 dL_law_728 rfl rfl ?_
        refine aw_iload_n 730 dL_law_729 rfl rfl ?_
        refine aw_iconst (v := 1) 731 dL_law_730 rfl (by decide) ?_
        refine aw_iadd 732 dL_law_731 rfl ?_
        obtain ⟨g140, H⟩ := H
        obtain ⟨g141, H⟩ := H
        refine aw_iald 733 dL_law_732 rfl (Or.inr (shp g140)) g141 ?_
        refine aw_aload_n 734 dL_law_733 rfl rfl ?_
        refine aw_iload_n 735 dL_law_734 rfl rfl ?_
        refine aw_iconst (v := 2) 736 dL_law_735 rfl (by decide) ?_
        refine aw_iadd 737 dL_law_736 rfl ?_
        obtain ⟨g142, H⟩ := H
        refine aw_iald 738 dL_law_737 rfl (Or.inr (shp g140)) g142 ?_
        obtain ⟨g143, H⟩ := H
        refine aw_callV (stk := [.int r35]) (ci := 10) [.int (hI h35 a0 (x3 + 1).toNatClampNeg), .int (hI h35 a0 (x3 + 2).toNatClampNeg)] 741 dL_law_738 rfl mv_L_83 ⟨by decide, by decide⟩ g143 (by intro r hr; cases hr; rfl) rfl rfl (by simp [Value.category]) (by decide) H ?_
        rintro _ h36 ⟨r36, rfl, H⟩
        refine aw_icmp_eq 1356 744 dL_law_741 rfl (by decide) (fun c144 => ?_) (fun c144 => ?_)
        · replace H := H.1 c144
          refine aw_iinc (y := 6) (loc' := [some (.ref a0), some (.ref a1), some (.ref a2), some (.int (x3 + 6))]) 1359 dL_law_1356 rfl (by decide) rfl (by decide) rfl ?_
          refine aw_goto 18 dL_law_1359 (by decide) ?_
          exact H
        · replace H := H.2 c144
          refine aw_iconst (v := 0) 745 dL_law_744 rfl (by decide) ?_
          exact aw_zreturn dL_law_745 rfl (by decide) (by decide) (by decide) ⟨_, rfl, H⟩
      · refine aw_tableIn 746 dL_law_33 c4a c4b (by rw [c4e]; rfl) (by decide) ?_
        replace H := H.2.2.2.2.2.2.2.2.2.2.2.2.2.2.2.2.1 c4e
        refine aw_aload_n 747 dL_law_746 rfl rfl ?_
        obtain ⟨g145, H⟩ := H
        refine aw_callV (stk := []) (ci := 9) [] 750 dL_law_747 rfl mv_L_84 ⟨by decide, by decide⟩ g145 (by intro r hr; cases hr; rfl) rfl rfl (by simp [Value.category]) (by decide) H ?_
        rintro _ h37 ⟨r37, rfl, H⟩
        refine aw_aload_n 751 dL_law_750 rfl rfl ?_
        obtain ⟨g146, H⟩ := H
        refine aw_callV (stk := [.int r37]) (ci := 10) [] 754 dL_law_751 rfl mv_L_87 ⟨by decide, by decide⟩ g146 (by intro r hr; cases hr; rfl) rfl rfl (by simp [Value.category]) (by decide) H ?_
        rintro _ h38 ⟨r38, rfl, H⟩
        refine aw_icmp_eq 1356 757 dL_law_754 rfl (by decide) (fun c147 => ?_) (fun c147 => ?_)
        · replace H := H.1 c147
          refine aw_iinc (y := 6) (loc' := [some (.ref a0), some (.ref a1), some (.ref a2), some (.int (x3 + 6))]) 1359 dL_law_1356 rfl (by decide) rfl (by decide) rfl ?_
          refine aw_goto 18 dL_law_1359 (by decide) ?_
          exact H
        · replace H := H.2 c147
          refine aw_iconst (v := 0) 758 dL_law_757 rfl (by decide) ?_
          exact aw_zreturn dL_law_758 rfl (by decide) (by decide) (by decide) ⟨_, rfl, H⟩
      · refine aw_tableIn 759 dL_law_33 c4a c4b (by rw [c4e]; rfl) (by decide) ?_
        replace H := H.2.2.2.2.2.2.2.2.2.2.2.2.2.2.2.2.2.1 c4e
        refine aw_aload_n 760 dL_law_759 rfl rfl ?_
        refine aw_aload_n 761 dL_law_760 rfl rfl ?_
        refine aw_iload_n 762 dL_law_761 rfl rfl ?_
        refine aw_iconst (v := 1) 763 dL_law_762 rfl (by decide) ?_
        refine aw_iadd 764 dL_law_763 rfl ?_
        obtain ⟨g148, H⟩ := H
        refine aw_iald 765 dL_law_764 rfl (Or.inr (shp g1)) g148 ?_
        refine aw_aload_n 766 dL_law_765 rfl rfl ?_
        refine aw_iload_n 767 dL_law_766 rfl rfl ?_
        refine aw_iconst (v := 2) 768 dL_law_767 rfl (by decide) ?_
        refine aw_iadd 769 dL_law_768 rfl ?_
        obtain ⟨g149, H⟩ := H
        refine aw_iald 770 dL_law_769 rfl (Or.inr (shp g1)) g149 ?_
        obtain ⟨g150, H⟩ := H
        refine aw_callV (stk := []) (ci := 9) [.int (hI h a0 (x3 + 1).toNatClampNeg), .int (hI h a0 (x3 + 2).toNatClampNeg)] 773 dL_law_770 rfl mv_L_88 ⟨by decide, by decide⟩ g150 (by intro r hr; cases hr; rfl) rfl rfl (by simp [Value.category]) (by decide) H ?_
        rintro _ h39 ⟨r39, rfl, H⟩
        refine aw_aload_n 774 dL_law_773 rfl rfl ?_
        refine aw_aload_n 775 dL_law_774 rfl rfl ?_
        refine aw_iload_n 776 dL_law_775 rfl rfl ?_
        refine aw_iconst (v := 1) 777 dL_law_776 rfl (by decide) ?_
        refine aw_iadd 778 dL_law_777 rfl ?_
        obtain ⟨g151, H⟩ := H
        obtain ⟨g152, H⟩ := H
        refine aw_iald 779 dL_law_778 rfl (Or.inr (shp g151)) g152 ?_
        refine aw_aload_n 780 dL_law_779 rfl rfl ?_
        refine aw_iload_n 781 dL_law_780 rfl rfl ?_
        refine aw_iconst (v := 2) 782 dL_law_781 rfl (by decide) ?_
        refine aw_iadd 783 dL_law_782 rfl ?_
        obtain ⟨g153, H⟩ := H
        refine aw_iald 784 dL_law_783 rfl (Or.inr (shp g151)) g153 ?_
        obtain ⟨g154, H⟩ := H
        refine aw_callV (stk := [.int r39]) (ci := 10) [.int (hI h39 a0 (x3 + 1).toNatClampNeg), .int (hI h39 a0 (x3 + 2).toNatClampNeg)] 787 dL_law_784 rfl mv_L_91 ⟨by decide, by decide⟩ g154 (by intro r hr; cases hr; rfl) rfl rfl (by simp [Value.category]) (by decide) H ?_
        rintro _ h40 ⟨r40, rfl, H⟩
        refine aw_icmp_eq 1356 790 dL_law_787 rfl (by decide) (fun c155 => ?_) (fun c155 => ?_)
        · replace H := H.1 c155
          refine aw_iinc (y := 6) (loc' := [some (.ref a0), some (.ref a1), some (.ref a2), some (.int (x3 + 6))]) 1359 dL_law_1356 rfl (by decide) rfl (by decide) rfl ?_
          refine aw_goto 18 dL_law_1359 (by decide) ?_
          exact H
        · replace H := H.2 c155
          refine aw_iconst (v := 0) 791 dL_law_790 rfl (by decide) ?_
          exact aw_zreturn dL_law_791 rfl (by decide) (by decide) (by decide) ⟨_, rfl, H⟩
      · refine aw_tableIn 792 dL_law_33 c4a c4b (by rw [c4e]; rfl) (by decide) ?_
        replace H := H.2.2.2.2.2.2.2.2.2.2.2.2.2.2.2.2.2.2.1 c4e
        refine aw_aload_n 793 dL_law_792 rfl rfl ?_
        refine aw_aload_n 794 dL_law_793 rfl rfl ?_
        refine aw_iload_n 795 dL_law_794 rfl rfl ?_
        refine aw_iconst (v := 1) 796 dL_law_795 rfl (by decide) ?_
        refine aw_iadd 797 dL_law_796 rfl ?_
        obtain ⟨g156, H⟩ := H
        refine aw_iald 798 dL_law_797 rfl (Or.inr (shp g1)) g156 ?_
        obtain ⟨g157, H⟩ := H
        refine aw_callV (stk := []) (ci := 9) [.int (hI h a0 (x3 + 1).toNatClampNeg)] 801 dL_law_798 rfl mv_L_92 ⟨by decide, by decide⟩ g157 (by intro r hr; cases hr; rfl) rfl rfl (by simp [Value.category]) (by decide) H ?_
        rintro _ h41 ⟨r41, rfl, H⟩
        refine aw_aload_n 802 dL_law_801 rfl rfl ?_
        refine aw_aload_n 803 dL_law_802 rfl rfl ?_
        refine aw_iload_n 804 dL_law_803 rfl rfl ?_
        refine aw_iconst (v := 1) 805 dL_law_804 rfl (by decide) ?_
        refine aw_iadd 806 dL_law_805 rfl ?_
        obtain ⟨g158, H⟩ := H
        obtain ⟨g159, H⟩ := H
        refine aw_iald 807 dL_law_806 rfl (Or.inr (shp g158)) g159 ?_
        obtain ⟨g160, H⟩ := H
        refine aw_callV (stk := [.int r41]) (ci := 10) [.int (hI h41 a0 (x3 + 1).toNatClampNeg)] 810 dL_law_807 rfl mv_L_95 ⟨by decide, by decide⟩ g160 (by intro r hr; cases hr; rfl) rfl rfl (by simp [Value.category]) (by decide) H ?_
        rintro _ h42 ⟨r42, rfl, H⟩
        refine aw_icmp_eq 1356 813 dL_law_810 rfl (by decide) (fun c161 => ?_) (fun c161 => ?_)
        · replace H := H.1 c161
          refine aw_iinc (y := 6) (loc' := [some (.ref a0), some (.ref a1), some (.ref a2), some (.int (x3 + 6))]) 1359 dL_law_1356 rfl (by decide) rfl (by decide) rfl ?_
          refine aw_goto 18 dL_law_1359 (by decide) ?_
          exact H
        · replace H := H.2 c161
          refine aw_iconst (v := 0) 814 dL_law_813 rfl (by decide) ?_
          exact aw_zreturn dL_law_814 rfl (by decide) (by decide) (by decide) ⟨_, rfl, H⟩
      · refine aw_tableIn 815 dL_law_33 c4a c4b (by rw [c4e]; rfl) (by decide) ?_
        replace H := H.2.2.2.2.2.2.2.2.2.2.2.2.2.2.2.2.2.2.2.1 c4e
        refine aw_aload_n 816 dL_law_815 rfl rfl ?_
        refine aw_aload_n 817 dL_law_816 rfl rfl ?_
        refine aw_iload_n 818 dL_law_817 rfl rfl ?_
        refine aw_iconst (v := 1) 819 dL_law_818 rfl (by decide) ?_
        refine aw_iadd 820 dL_law_819 rfl ?_
        obtain ⟨g162, H⟩ := H
        refine aw_iald 821 dL_law_820 rfl (Or.inr (shp g1)) g162 ?_
        refine aw_aload_n 822 dL_law_821 rfl rfl ?_
        refine aw_iload_n 823 dL_law_822 rfl rfl ?_
        refine aw_iconst (v := 2) 824 dL_law_823 rfl (by decide) ?_
        refine aw_iadd 825 dL_law_824 rfl ?_
        obtain ⟨g163, H⟩ := H
        refine aw_iald 826 dL_law_825 rfl (Or.inr (shp g1)) g163 ?_
        obtain ⟨g164, H⟩ := H
        refine aw_callV (stk := []) (ci := 9) [.int (hI h a0 (x3 + 1).toNatClampNeg), .int (hI h a0 (x3 + 2).toNatClampNeg)] 829 dL_law_826 rfl mv_L_96 ⟨by decide, by decide⟩ g164 (by intro r hr; cases hr; rfl) rfl rfl (by simp [Value.category]) (by decide) H ?_
        rintro _ h43 ⟨r43, rfl, H⟩
        refine aw_aload_n 830 dL_law_829 rfl rfl ?_
        refine aw_aload_n 831 dL_law_830 rfl rfl ?_
        refine aw_iload_n 832 dL_law_831 rfl rfl ?_
        refine aw_iconst (v := 1) 833 dL_law_832 rfl (by decide) ?_
        refine aw_iadd 834 dL_law_833 rfl ?_
        obtain ⟨g165, H⟩ := H
        obtain ⟨g166, H⟩ := H
        refine aw_iald 835 dL_law_834 rfl (Or.inr (shp g165)) g166 ?_
        refine aw_aload_n 836 dL_law_835 rfl rfl ?_
        refine aw_iload_n 837 dL_law_836 rfl rfl ?_
        refine aw_iconst (v := 2) 838 dL_law_837 rfl (by decide) ?_
        refine aw_iadd 839 dL_law_838 rfl ?_
        obtain ⟨g167, H⟩ := H
        refine aw_iald 840 dL_law_839 rfl (Or.inr (shp g165)) g167 ?_
        obtain ⟨g168, H⟩ := H
        refine aw_callV (stk := [.int r43]) (ci := 10) [.int (hI h43 a0 (x3 + 1).toNatClampNeg), .int (hI h43 a0 (x3 + 2).toNatClampNeg)] 843 dL_law_840 rfl mv_L_99 ⟨by decide, by decide⟩ g168 (by intro r hr; cases hr; rfl) rfl rfl (by simp [Value.category]) (by decide) H ?_
        rintro _ h44 ⟨r44, rfl, H⟩
        refine aw_icmp_eq 1356 846 dL_law_843 rfl (by decide) (fun c169 => ?_) (fun c169 => ?_)
        · replace H := H.1 c169
          refine aw_iinc (y := 6) (loc' := [some (.ref a0), some (.ref a1), some (.ref a2), some (.int (x3 + 6))]) 1359 dL_law_1356 rfl (by decide) rfl (by decide) rfl ?_
          refine aw_goto 18 dL_law_1359 (by decide) ?_
          exact H
        · replace H := H.2 c169
          refine aw_iconst (v := 0) 847 dL_law_846 rfl (by decide) ?_
          exact aw_zreturn dL_law_847 rfl (by decide) (by decide) (by decide) ⟨_, rfl, H⟩
      · refine aw_tableIn 848 dL_law_33 c4a c4b (by rw [c4e]; rfl) (by decide) ?_
        replace H := H.2.2.2.2.2.2.2.2.2.2.2.2.2.2.2.2.2.2.2.2.1 c4e
        refine aw_aload_n 849 dL_law_848 rfl rfl ?_
        refine aw_aload_n 850 dL_law_849 rfl rfl ?_
        refine aw_iload_n 851 dL_law_850 rfl rfl ?_
        refine aw_iconst (v := 1) 852 dL_law_851 rfl (by decide) ?_
        refine aw_iadd 853 dL_law_852 rfl ?_
        obtain ⟨g170, H⟩ := H
        refine aw_iald 854 dL_law_853 rfl (Or.inr (shp g1)) g170 ?_
        refine aw_aload_n 855 dL_law_854 rfl rfl ?_
        refine aw_iload_n 856 dL_law_855 rfl rfl ?_
        refine aw_iconst (v := 2) 857 dL_law_856 rfl (by decide) ?_
        refine aw_iadd 858 dL_law_857 rfl ?_
        obtain ⟨g171, H⟩ := H
        refine aw_iald 859 dL_law_858 rfl (Or.inr (shp g1)) g171 ?_
        obtain ⟨g172, H⟩ := H
        refine aw_callV (stk := []) (ci := 9) [.int (hI h a0 (x3 + 1).toNatClampNeg), .int (hI h a0 (x3 + 2).toNatClampNeg)] 862 dL_law_859 rfl mv_L_100 ⟨by decide, by decide⟩ g172 (by intro r hr; cases hr; rfl) rfl rfl (by simp [Value.category]) (by decide) H ?_
        rintro _ h45 ⟨r45, rfl, H⟩
        refine aw_aload_n 863 dL_law_862 rfl rfl ?_
        refine aw_aload_n 864 dL_law_863 rfl rfl ?_
        refine aw_iload_n 865 dL_law_864 rfl rfl ?_
        refine aw_iconst (v := 1) 866 dL_law_865 rfl (by decide) ?_
        refine aw_iadd 867 dL_law_866 rfl ?_
        obtain ⟨g173, H⟩ := H
        obtain ⟨g174, H⟩ := H
        refine aw_iald 868 dL_law_867 rfl (Or.inr (shp g173)) g174 ?_
        refine aw_aload_n 869 dL_law_868 rfl rfl ?_
        refine aw_iload_n 870 dL_law_869 rfl rfl ?_
        refine aw_iconst (v := 2) 871 dL_law_870 rfl (by decide) ?_
        refine aw_iadd 872 dL_law_871 rfl ?_
        obtain ⟨g175, H⟩ := H
        refine aw_iald 873 dL_law_872 rfl (Or.inr (shp g173)) g175 ?_
        obtain ⟨g176, H⟩ := H
        refine aw_callV (stk := [.int r45]) (ci := 10) [.int (hI h45 a0 (x3 + 1).toNatClampNeg), .int (hI h45 a0 (x3 + 2).toNatClampNeg)] 876 dL_law_873 rfl mv_L_103 ⟨by decide, by decide⟩ g176 (by intro r hr; cases hr; rfl) rfl rfl (by simp [Value.category]) (by decide) H ?_
        rintro _ h46 ⟨r46, rfl, H⟩
        refine aw_icmp_eq 1356 879 dL_law_876 rfl (by decide) (fun c177 => ?_) (fun c177 => ?_)
        · replace H := H.1 c177
          refine aw_iinc (y := 6) (loc' := [some (.ref a0), some (.ref a1), some (.ref a2), some (.int (x3 + 6))]) 1359 dL_law_1356 rfl (by decide) rfl (by decide) rfl ?_
          refine aw_goto 18 dL_law_1359 (by decide) ?_
          exact H
        · replace H := H.2 c177
          refine aw_iconst (v := 0) 880 dL_law_879 rfl (by decide) ?_
          exact aw_zreturn dL_law_880 rfl (by decide) (by decide) (by decide) ⟨_, rfl, H⟩
      · refine aw_tableIn 881 dL_law_33 c4a c4b (by rw [c4e]; rfl) (by decide) ?_
        replace H := H.2.2.2.2.2.2.2.2.2.2.2.2.2.2.2.2.2.2.2.2.2.1 c4e
        refine aw_aload_n 882 dL_law_881 rfl rfl ?_
        refine aw_aload_n 883 dL_law_882 rfl rfl ?_
        refine aw_iload_n 884 dL_law_883 rfl rfl ?_
        refine aw_iconst (v := 1) 885 dL_law_884 rfl (by decide) ?_
        refine aw_iadd 886 dL_law_885 rfl ?_
        obtain ⟨g178, H⟩ := H
        refine aw_iald 887 dL_law_886 rfl (Or.inr (shp g1)) g178 ?_
        refine aw_aload_n 888 dL_law_887 rfl rfl ?_
        refine aw_iload_n 889 dL_law_888 rfl rfl ?_
        refine aw_iconst (v := 2) 890 dL_law_889 rfl (by decide) ?_
        refine aw_iadd 891 dL_law_890 rfl ?_
        obtain ⟨g179, H⟩ := H
        refine aw_iald 892 dL_law_891 rfl (Or.inr (shp g1)) g179 ?_
        obtain ⟨g180, H⟩ := H
        refine aw_callV (stk := []) (ci := 9) [.int (hI h a0 (x3 + 1).toNatClampNeg), .int (hI h a0 (x3 + 2).toNatClampNeg)] 895 dL_law_892 rfl mv_L_104 ⟨by decide, by decide⟩ g180 (by intro r hr; cases hr; rfl) rfl rfl (by simp [Value.category]) (by decide) H ?_
        rintro _ h47 ⟨r47, rfl, H⟩
        refine aw_aload_n 896 dL_law_895 rfl rfl ?_
        refine aw_aload_n 897 dL_law_896 rfl rfl ?_
        refine aw_iload_n 898 dL_law_897 rfl rfl ?_
        refine aw_iconst (v := 1) 899 dL_law_898 rfl (by decide) ?_
        refine aw_iadd 900 dL_law_899 rfl ?_
        obtain ⟨g181, H⟩ := H
        obtain ⟨g182, H⟩ := H
        refine aw_iald 901 dL_law_900 rfl (Or.inr (shp g181)) g182 ?_
        refine aw_aload_n 902 dL_law_901 rfl rfl ?_
        refine aw_iload_n 903 dL_law_902 rfl rfl ?_
        refine aw_iconst (v := 2) 904 dL_law_903 rfl (by decide) ?_
        refine aw_iadd 905 dL_law_904 rfl ?_
        obtain ⟨g183, H⟩ := H
        refine aw_iald 906 dL_law_905 rfl (Or.inr (shp g181)) g183 ?_
        obtain ⟨g184, H⟩ := H
        refine aw_callV (stk := [.int r47]) (ci := 10) [.int (hI h47 a0 (x3 + 1).toNatClampNeg), .int (hI h47 a0 (x3 + 2).toNatClampNeg)] 909 dL_law_906 rfl mv_L_107 ⟨by decide, by decide⟩ g184 (by intro r hr; cases hr; rfl) rfl rfl (by simp [Value.category]) (by decide) H ?_
        rintro _ h48 ⟨r48, rfl, H⟩
        refine aw_icmp_eq 1356 912 dL_law_909 rfl (by decide) (fun c185 => ?_) (fun c185 => ?_)
        · replace H := H.1 c185
          refine aw_iinc (y := 6) (loc' := [some (.ref a0), some (.ref a1), some (.ref a2), some (.int (x3 + 6))]) 1359 dL_law_1356 rfl (by decide) rfl (by decide) rfl ?_
          refine aw_goto 18 dL_law_1359 (by decide) ?_
          exact H
        · replace H := H.2 c185
          refine aw_iconst (v := 0) 913 dL_law_912 rfl (by decide) ?_
          exact aw_zreturn dL_law_913 rfl (by decide) (by decide) (by decide) ⟨_, rfl, H⟩
      · refine aw_tableIn 914 dL_law_33 c4a c4b (by rw [c4e]; rfl) (by decide) ?_
        replace H := H.2.2.2.2.2.2.2.2.2.2.2.2.2.2.2.2.2.2.2.2.2.2.1 c4e
        refine aw_aload_n 915 dL_law_914 rfl rfl ?_
        obtain ⟨g186, H⟩ := H
        refine aw_callV (stk := []) (ci := 9) [] 918 dL_law_915 rfl mv_L_108 ⟨by decide, by decide⟩ g186 (by intro r hr; cases hr; rfl) rfl rfl (by simp [Value.category]) (by decide) H ?_
        rintro _ h49 ⟨r49, rfl, H⟩
        refine aw_aload_n 919 dL_law_918 rfl rfl ?_
        obtain ⟨g187, H⟩ := H
        refine aw_callV (stk := [.int r49]) (ci := 10) [] 922 dL_law_919 rfl mv_L_111 ⟨by decide, by decide⟩ g187 (by intro r hr; cases hr; rfl) rfl rfl (by simp [Value.category]) (by decide) H ?_
        rintro _ h50 ⟨r50, rfl, H⟩
        refine aw_icmp_eq 1356 925 dL_law_922 rfl (by decide) (fun c188 => ?_) (fun c188 => ?_)
        · replace H := H.1 c188
          refine aw_iinc (y := 6) (loc' := [some (.ref a0), some (.ref a1), some (.ref a2), some (.int (x3 + 6))]) 1359 dL_law_1356 rfl (by decide) rfl (by decide) rfl ?_
          refine aw_goto 18 dL_law_1359 (by decide) ?_
          exact H
        · replace H := H.2 c188
          refine aw_iconst (v := 0) 926 dL_law_925 rfl (by decide) ?_
          exact aw_zreturn dL_law_926 rfl (by decide) (by decide) (by decide) ⟨_, rfl, H⟩
      · refine aw_tableIn 927 dL_law_33 c4a c4b (by rw [c4e]; rfl) (by decide) ?_
        replace H := H.2.2.2.2.2.2.2.2.2.2.2.2.2.2.2.2.2.2.2.2.2.2.2.1 c4e
        refine aw_aload_n 928 dL_law_927 rfl rfl ?_
        refine aw_aload_n 929 dL_law_928 rfl rfl ?_
        refine aw_iload_n 930 dL_law_929 rfl rfl ?_
        refine aw_iconst (v := 1) 931 dL_law_930 rfl (by decide) ?_
        refine aw_iadd 932 dL_law_931 rfl ?_
        obtain ⟨g189, H⟩ := H
        refine aw_iald 933 dL_law_932 rfl (Or.inr (shp g1)) g189 ?_
        refine aw_aload_n 934 dL_law_933 rfl rfl ?_
        refine aw_iload_n 935 dL_law_934 rfl rfl ?_
        refine aw_iconst (v := 2) 936 dL_law_935 rfl (by decide) ?_
        refine aw_iadd 937 dL_law_936 rfl ?_
        obtain ⟨g190, H⟩ := H
        refine aw_iald 938 dL_law_937 rfl (Or.inr (shp g1)) g190 ?_
        refine aw_aload_n 939 dL_law_938 rfl rfl ?_
        refine aw_iload_n 940 dL_law_939 rfl rfl ?_
        refine aw_iconst (v := 3) 941 dL_law_940 rfl (by decide) ?_
        refine aw_iadd 942 dL_law_941 rfl ?_
        obtain ⟨g191, H⟩ := H
        refine aw_iald 943 dL_law_942 rfl (Or.inr (shp g1)) g191 ?_
        obtain ⟨g192, H⟩ := H
        refine aw_callV (stk := []) (ci := 9) [.int (hI h a0 (x3 + 1).toNatClampNeg), .int (hI h a0 (x3 + 2).toNatClampNeg), .int (hI h a0 (x3 + 3).toNatClampNeg)] 946 dL_law_943 rfl mv_L_112 ⟨by decide, by decide⟩ g192 (by intro r hr; cases hr; rfl) rfl rfl (by simp [Value.category]) (by decide) H ?_
        rintro _ h51 ⟨r51, rfl, H⟩
        refine aw_aload_n 947 dL_law_946 rfl rfl ?_
        refine aw_aload_n 948 dL_law_947 rfl rfl ?_
        refine aw_iload_n 949 dL_law_948 rfl rfl ?_
        refine aw_iconst (v := 1) 950 dL_law_949 rfl (by decide) ?_
        refine aw_iadd 951 dL_law_950 rfl ?_
        obtain ⟨g193, H⟩ := H
        obtain ⟨g194, H⟩ := H
        refine aw_iald 952 dL_law_951 rfl (Or.inr (shp g193)) g194 ?_
        refine aw_aload_n 953 dL_law_952 rfl rfl ?_
        refine aw_iload_n 954 dL_law_953 rfl rfl ?_
        refine aw_iconst (v := 2) 955 dL_law_954 rfl (by decide) ?_
        refine aw_iadd 956 dL_law_955 rfl ?_
        obtain ⟨g195, H⟩ := H
        refine aw_iald 957 dL_law_956 rfl (Or.inr (shp g193)) g195 ?_
        refine aw_aload_n 958 dL_law_957 rfl rfl ?_
        refine aw_iload_n 959 dL_law_958 rfl rfl ?_
        refine aw_iconst (v := 3) 960 dL_law_959 rfl (by decide) ?_
        refine aw_iadd 961 dL_law_960 rfl ?_
        obtain ⟨g196, H⟩ := H
        refine aw_iald 962 dL_law_961 rfl (Or.inr (shp g193)) g196 ?_
        obtain ⟨g197, H⟩ := H
        refine aw_callV (stk := [.int r51]) (ci := 10) [.int (hI h51 a0 (x3 + 1).toNatClampNeg), .int (hI h51 a0 (x3 + 2).toNatClampNeg), .int (hI h51 a0 (x3 + 3).toNatClampNeg)] 965 dL_law_962 rfl mv_L_115 ⟨by decide, by decide⟩ g197 (by intro r hr; cases hr; rfl) rfl rfl (by simp [Value.category]) (by decide) H ?_
        rintro _ h52 ⟨r52, rfl, H⟩
        refine aw_icmp_eq 1356 968 dL_law_965 rfl (by decide) (fun c198 => ?_) (fun c198 => ?_)
        · replace H := H.1 c198
          refine aw_iinc (y := 6) (loc' := [some (.ref a0), some (.ref a1), some (.ref a2), some (.int (x3 + 6))]) 1359 dL_law_1356 rfl (by decide) rfl (by decide) rfl ?_
          refine aw_goto 18 dL_law_1359 (by decide) ?_
          exact H
        · replace H := H.2 c198
          refine aw_iconst (v := 0) 969 dL_law_968 rfl (by decide) ?_
          exact aw_zreturn dL_law_969 rfl (by decide) (by decide) (by decide) ⟨_, rfl, H⟩
      · refine aw_tableIn 970 dL_law_33 c4a c4b (by rw [c4e]; rfl) (by decide) ?_
        replace H := H.2.2.2.2.2.2.2.2.2.2.2.2.2.2.2.2.2.2.2.2.2.2.2.2.1 c4e
        refine aw_aload_n 971 dL_law_970 rfl rfl ?_
        refine aw_aload_n 972 dL_law_971 rfl rfl ?_
        refine aw_iload_n 973 dL_law_972 rfl rfl ?_
        refine aw_iconst (v := 1) 974 dL_law_973 rfl (by decide) ?_
        refine aw_iadd 975 dL_law_974 rfl ?_
        obtain ⟨g199, H⟩ := H
        refine aw_iald 976 dL_law_975 rfl (Or.inr (shp g1)) g199 ?_
        refine aw_aload_n 977 dL_law_976 rfl rfl ?_
        refine aw_iload_n 978 dL_law_977 rfl rfl ?_
        refine aw_iconst (v := 2) 979 dL_law_978 rfl (by decide) ?_
        refine aw_iadd 980 dL_law_979 rfl ?_
        obtain ⟨g200, H⟩ := H
        refine aw_iald 981 dL_law_980 rfl (Or.inr (shp g1)) g200 ?_
        refine aw_aload_n 982 dL_law_981 rfl rfl ?_
        refine aw_iload_n 983 dL_law_982 rfl rfl ?_
        refine aw_iconst (v := 3) 984 dL_law_983 rfl (by decide) ?_
        refine aw_iadd 985 dL_law_984 rfl ?_
        obtain ⟨g201, H⟩ := H
        refine aw_iald 986 dL_law_985 rfl (Or.inr (shp g1)) g201 ?_
        refine aw_aload_n 987 dL_law_986 rfl rfl ?_
        refine aw_iload_n 988 dL_law_987 rfl rfl ?_
        refine aw_iconst (v := 4) 989 dL_law_988 rfl (by decide) ?_
        refine aw_iadd 990 dL_law_989 rfl ?_
        obtain ⟨g202, H⟩ := H
        refine aw_iald 991 dL_law_990 rfl (Or.inr (shp g1)) g202 ?_
        obtain ⟨g203, H⟩ := H
        refine aw_callV (stk := []) (ci := 9) [.int (hI h a0 (x3 + 1).toNatClampNeg), .int (hI h a0 (x3 + 2).toNatClampNeg), .int (hI h a0 (x3 + 3).toNatClampNeg), .int (hI h a0 (x3 + 4).toNatClampNeg)] 994 dL_law_991 rfl mv_L_116 ⟨by decide, by decide⟩ g203 (by intro r hr; cases hr; rfl) rfl rfl (by simp [Value.category]) (by decide) H ?_
        rintro _ h53 ⟨r53, rfl, H⟩
        refine aw_aload_n 995 dL_law_994 rfl rfl ?_
        refine aw_aload_n 996 dL_law_995 rfl rfl ?_
        refine aw_iload_n 997 dL_law_996 rfl rfl ?_
        refine aw_iconst (v := 1) 998 dL_law_997 rfl (by decide) ?_
        refine aw_iadd 999 dL_law_998 rfl ?_
        obtain ⟨g204, H⟩ := H
        obtain ⟨g205, H⟩ := H
        refine aw_iald 1000 dL_law_999 rfl (Or.inr (shp g204)) g205 ?_
        refine aw_aload_n 1001 dL_law_1000 rfl rfl ?_
        refine aw_iload_n 1002 dL_law_1001 rfl rfl ?_
        refine aw_iconst (v := 2) 1003 dL_law_1002 rfl (by decide) ?_
        refine aw_iadd 1004 dL_law_1003 rfl ?_
        obtain ⟨g206, H⟩ := H
        refine aw_iald 1005 dL_law_1004 rfl (Or.inr (shp g204)) g206 ?_
        refine aw_aload_n 1006 dL_law_1005 rfl rfl ?_
        refine aw_iload_n 1007 dL_law_1006 rfl rfl ?_
        refine aw_iconst (v := 3) 1008 dL_law_1007 rfl (by decide) ?_
        refine aw_iadd 1009 dL_law_1008 rfl ?_
        obtain ⟨g207, H⟩ := H
        refine aw_iald 1010 dL_law_1009 rfl (Or.inr (shp g204)) g207 ?_
        refine aw_aload_n 1011 dL_law_1010 rfl rfl ?_
        refine aw_iload_n 1012 dL_law_1011 rfl rfl ?_
        refine aw_iconst (v := 4) 1013 dL_law_1012 rfl (by decide) ?_
        refine aw_iadd 1014 dL_law_1013 rfl ?_
        obtain ⟨g208, H⟩ := H
        refine aw_iald 1015 dL_law_1014 rfl (Or.inr (shp g204)) g208 ?_
        obtain ⟨g209, H⟩ := H
        refine aw_callV (stk := [.int r53]) (ci := 10) [.int (hI h53 a0 (x3 + 1).toNatClampNeg), .int (hI h53 a0 (x3 + 2).toNatClampNeg), .int (hI h53 a0 (x3 + 3).toNatClampNeg), .int (hI h53 a0 (x3 + 4).toNatClampNeg)] 1018 dL_law_1015 rfl mv_L_119 ⟨by decide, by decide⟩ g209 (by intro r hr; cases hr; rfl) rfl rfl (by simp [Value.category]) (by decide) H ?_
        rintro _ h54 ⟨r54, rfl, H⟩
        refine aw_icmp_eq 1356 1021 dL_law_1018 rfl (by decide) (fun c210 => ?_) (fun c210 => ?_)
        · replace H := H.1 c210
          refine aw_iinc (y := 6) (loc' := [some (.ref a0), some (.ref a1), some (.ref a2), some (.int (x3 + 6))]) 1359 dL_law_1356 rfl (by decide) rfl (by decide) rfl ?_
          refine aw_goto 18 dL_law_1359 (by decide) ?_
          exact H
        · replace H := H.2 c210
          refine aw_iconst (v := 0) 1022 dL_law_1021 rfl (by decide) ?_
          exact aw_zreturn dL_law_1022 rfl (by decide) (by decide) (by decide) ⟨_, rfl, H⟩
      · refine aw_tableIn 1023 dL_law_33 c4a c4b (by rw [c4e]; rfl) (by decide) ?_
        replace H := H.2.2.2.2.2.2.2.2.2.2.2.2.2.2.2.2.2.2.2.2.2.2.2.2.2.1 c4e
        refine aw_aload_n 1024 dL_law_1023 rfl rfl ?_
        refine aw_aload_n 1025 dL_law_1024 rfl rfl ?_
        refine aw_iload_n 1026 dL_law_1025 rfl rfl ?_
        refine aw_iconst (v := 1) 1027 dL_law_1026 rfl (by decide) ?_
        refine aw_iadd 1028 dL_law_1027 rfl ?_
        obtain ⟨g211, H⟩ := H
        refine aw_iald 1029 dL_law_1028 rfl (Or.inr (shp g1)) g211 ?_
        obtain ⟨g212, H⟩ := H
        refine aw_callV (stk := []) (ci := 9) [.int (hI h a0 (x3 + 1).toNatClampNeg)] 1032 dL_law_1029 rfl mv_L_120 ⟨by decide, by decide⟩ g212 (by intro r hr; cases hr; rfl) rfl rfl (by simp [Value.category]) (by decide) H ?_
        rintro _ h55 ⟨r55, rfl, H⟩
        refine aw_aload_n 1033 dL_law_1032 rfl rfl ?_
        refine aw_aload_n 1034 dL_law_1033 rfl rfl ?_
        refine aw_iload_n 1035 dL_law_1034 rfl rfl ?_
        refine aw_iconst (v := 1) 1036 dL_law_1035 rfl (by decide) ?_
        refine aw_iadd 1037 dL_law_1036 rfl ?_
        obtain ⟨g213, H⟩ := H
        obtain ⟨g214, H⟩ := H
        refine aw_iald 1038 dL_law_1037 rfl (Or.inr (shp g213)) g214 ?_
        obtain ⟨g215, H⟩ := H
        refine aw_callV (stk := [.int r55]) (ci := 10) [.int (hI h55 a0 (x3 + 1).toNatClampNeg)] 1041 dL_law_1038 rfl mv_L_123 ⟨by decide, by decide⟩ g215 (by intro r hr; cases hr; rfl) rfl rfl (by simp [Value.category]) (by decide) H ?_
        rintro _ h56 ⟨r56, rfl, H⟩
        refine aw_icmp_eq 1356 1044 dL_law_1041 rfl (by decide) (fun c216 => ?_) (fun c216 => ?_)
        · replace H := H.1 c216
          refine aw_iinc (y := 6) (loc' := [some (.ref a0), some (.ref a1), some (.ref a2), some (.int (x3 + 6))]) 1359 dL_law_1356 rfl (by decide) rfl (by decide) rfl ?_
          refine aw_goto 18 dL_law_1359 (by decide) ?_
          exact H
        · replace H := H.2 c216
          refine aw_iconst (v := 0) 1045 dL_law_1044 rfl (by decide) ?_
          exact aw_zreturn dL_law_1045 rfl (by decide) (by decide) (by decide) ⟨_, rfl, H⟩
      · refine aw_tableIn 1046 dL_law_33 c4a c4b (by rw [c4e]; rfl) (by decide) ?_
        replace H := H.2.2.2.2.2.2.2.2.2.2.2.2.2.2.2.2.2.2.2.2.2.2.2.2.2.2.1 c4e
        refine aw_aload_n 1047 dL_law_1046 rfl rfl ?_
        refine aw_aload_n 1048 dL_law_1047 rfl rfl ?_
        refine aw_iload_n 1049 dL_law_1048 rfl rfl ?_
        refine aw_iconst (v := 1) 1050 dL_law_1049 rfl (by decide) ?_
        refine aw_iadd 1051 dL_law_1050 rfl ?_
        obtain ⟨g217, H⟩ := H
        refine aw_iald 1052 dL_law_1051 rfl (Or.inr (shp g1)) g217 ?_
        refine aw_aload_n 1053 dL_law_1052 rfl rfl ?_
        refine aw_iload_n 1054 dL_law_1053 rfl rfl ?_
        refine aw_iconst (v := 2) 1055 dL_law_1054 rfl (by decide) ?_
        refine aw_iadd 1056 dL_law_1055 rfl ?_
        obtain ⟨g218, H⟩ := H
        refine aw_iald 1057 dL_law_1056 rfl (Or.inr (shp g1)) g218 ?_
        refine aw_aload_n 1058 dL_law_1057 rfl rfl ?_
        refine aw_iload_n 1059 dL_law_1058 rfl rfl ?_
        refine aw_iconst (v := 3) 1060 dL_law_1059 rfl (by decide) ?_
        refine aw_iadd 1061 dL_law_1060 rfl ?_
        obtain ⟨g219, H⟩ := H
        refine aw_iald 1062 dL_law_1061 rfl (Or.inr (shp g1)) g219 ?_
        obtain ⟨g220, H⟩ := H
        refine aw_callV (stk := []) (ci := 9) [.int (hI h a0 (x3 + 1).toNatClampNeg), .int (hI h a0 (x3 + 2).toNatClampNeg), .int (hI h a0 (x3 + 3).toNatClampNeg)] 1065 dL_law_1062 rfl mv_L_124 ⟨by decide, by decide⟩ g220 (by intro r hr; cases hr; rfl) rfl rfl (by simp [Value.category]) (by decide) H ?_
        rintro _ h57 ⟨r57, rfl, H⟩
        refine aw_aload_n 1066 dL_law_1065 rfl rfl ?_
        refine aw_aload_n 1067 dL_law_1066 rfl rfl ?_
        refine aw_iload_n 1068 dL_law_1067 rfl rfl ?_
        refine aw_iconst (v := 1) 1069 dL_law_1068 rfl (by decide) ?_
        refine aw_iadd 1070 dL_law_1069 rfl ?_
        obtain ⟨g221, H⟩ := H
        obtain ⟨g222, H⟩ := H
        refine aw_iald 1071 dL_law_1070 rfl (Or.inr (shp g221)) g222 ?_
        refine aw_aload_n 1072 dL_law_1071 rfl rfl ?_
        refine aw_iload_n 1073 dL_law_1072 rfl rfl ?_
        refine aw_iconst (v := 2) 1074 dL_law_1073 rfl (by decide) ?_
        refine aw_iadd 1075 dL_law_1074 rfl ?_
        obtain ⟨g223, H⟩ := H
        refine aw_iald 1076 dL_law_1075 rfl (Or.inr (shp g221)) g223 ?_
        refine aw_aload_n 1077 dL_law_1076 rfl rfl ?_
        refine aw_iload_n 1078 dL_law_1077 rfl rfl ?_
        refine aw_iconst (v := 3) 1079 dL_law_1078 rfl (by decide) ?_
        refine aw_iadd 1080 dL_law_1079 rfl ?_
        obtain ⟨g224, H⟩ := H
        refine aw_iald 1081 dL_law_1080 rfl (Or.inr (shp g221)) g224 ?_
        obtain ⟨g225, H⟩ := H
        refine aw_callV (stk := [.int r57]) (ci := 10) [.int (hI h57 a0 (x3 + 1).toNatClampNeg), .int (hI h57 a0 (x3 + 2).toNatClampNeg), .int (hI h57 a0 (x3 + 3).toNatClampNeg)] 1084 dL_law_1081 rfl mv_L_127 ⟨by decide, by decide⟩ g225 (by intro r hr; cases hr; rfl) rfl rfl (by simp [Value.category]) (by decide) H ?_
        rintro _ h58 ⟨r58, rfl, H⟩
        refine aw_icmp_eq 1356 1087 dL_law_1084 rfl (by decide) (fun c226 => ?_) (fun c226 => ?_)
        · replace H := H.1 c226
          refine aw_iinc (y := 6) (loc' := [some (.ref a0), some (.ref a1), some (.ref a2), some (.int (x3 + 6))]) 1359 dL_law_1356 rfl (by decide) rfl (by decide) rfl ?_
          refine aw_goto 18 dL_law_1359 (by decide) ?_
          exact H
        · replace H := H.2 c226
          refine aw_iconst (v := 0) 1088 dL_law_1087 rfl (by decide) ?_
          exact aw_zreturn dL_law_1088 rfl (by decide) (by decide) (by decide) ⟨_, rfl, H⟩
      · refine aw_tableIn 1089 dL_law_33 c4a c4b (by rw [c4e]; rfl) (by decide) ?_
        replace H := H.2.2.2.2.2.2.2.2.2.2.2.2.2.2.2.2.2.2.2.2.2.2.2.2.2.2.2.1 c4e
        refine aw_aload_n 1090 dL_law_1089 rfl rfl ?_
        refine aw_aload_n 1091 dL_law_1090 rfl rfl ?_
        refine aw_iload_n 1092 dL_law_1091 rfl rfl ?_
        refine aw_iconst (v := 1) 1093 dL_law_1092 rfl (by decide) ?_
        refine aw_iadd 1094 dL_law_1093 rfl ?_
        obtain ⟨g227, H⟩ := H
        refine aw_iald 1095 dL_law_1094 rfl (Or.inr (shp g1)) g227 ?_
        refine aw_aload_n 1096 dL_law_1095 rfl rfl ?_
        refine aw_iload_n 1097 dL_law_1096 rfl rfl ?_
        refine aw_iconst (v := 2) 1098 dL_law_1097 rfl (by decide) ?_
        refine aw_iadd 1099 dL_law_1098 rfl ?_
        obtain ⟨g228, H⟩ := H
        refine aw_iald 1100 dL_law_1099 rfl (Or.inr (shp g1)) g228 ?_
        obtain ⟨g229, H⟩ := H
        refine aw_callV (stk := []) (ci := 9) [.int (hI h a0 (x3 + 1).toNatClampNeg), .int (hI h a0 (x3 + 2).toNatClampNeg)] 1103 dL_law_1100 rfl mv_L_128 ⟨by decide, by decide⟩ g229 (by intro r hr; cases hr; rfl) rfl rfl (by simp [Value.category]) (by decide) H ?_
        rintro _ h59 ⟨r59, rfl, H⟩
        refine aw_aload_n 1104 dL_law_1103 rfl rfl ?_
        refine aw_aload_n 1105 dL_law_1104 rfl rfl ?_
        refine aw_iload_n 1106 dL_law_1105 rfl rfl ?_
        refine aw_iconst (v := 1) 1107 dL_law_1106 rfl (by decide) ?_
        refine aw_iadd 1108 dL_law_1107 rfl ?_
        obtain ⟨g230, H⟩ := H
        obtain ⟨g231, H⟩ := H
        refine aw_iald 1109 dL_law_1108 rfl (Or.inr (shp g230)) g231 ?_
        refine aw_aload_n 1110 dL_law_1109 rfl rfl ?_
        refine aw_iload_n 1111 dL_law_1110 rfl rfl ?_
        refine aw_iconst (v := 2) 1112 dL_law_1111 rfl (by decide) ?_
        refine aw_iadd 1113 dL_law_1112 rfl ?_
        obtain ⟨g232, H⟩ := H
        refine aw_iald 1114 dL_law_1113 rfl (Or.inr (shp g230)) g232 ?_
        obtain ⟨g233, H⟩ := H
        refine aw_callV (stk := [.int r59]) (ci := 10) [.int (hI h59 a0 (x3 + 1).toNatClampNeg), .int (hI h59 a0 (x3 + 2).toNatClampNeg)] 1117 dL_law_1114 rfl mv_L_131 ⟨by decide, by decide⟩ g233 (by intro r hr; cases hr; rfl) rfl rfl (by simp [Value.category]) (by decide) H ?_
        rintro _ h60 ⟨r60, rfl, H⟩
        refine aw_icmp_eq 1356 1120 dL_law_1117 rfl (by decide) (fun c234 => ?_) (fun c234 => ?_)
        · replace H := H.1 c234
          refine aw_iinc (y := 6) (loc' := [some (.ref a0), some (.ref a1), some (.ref a2), some (.int (x3 + 6))]) 1359 dL_law_1356 rfl (by decide) rfl (by decide) rfl ?_
          refine aw_goto 18 dL_law_1359 (by decide) ?_
          exact H
        · replace H := H.2 c234
          refine aw_iconst (v := 0) 1121 dL_law_1120 rfl (by decide) ?_
          exact aw_zreturn dL_law_1121 rfl (by decide) (by decide) (by decide) ⟨_, rfl, H⟩
      · refine aw_tableIn 1122 dL_law_33 c4a c4b (by rw [c4e]; rfl) (by decide) ?_
        replace H := H.2.2.2.2.2.2.2.2.2.2.2.2.2.2.2.2.2.2.2.2.2.2.2.2.2.2.2.2.1 c4e
        refine aw_aload_n 1123 dL_law_1122 rfl rfl ?_
        refine aw_aload_n 1124 dL_law_1123 rfl rfl ?_
        refine aw_iload_n 1125 dL_law_1124 rfl rfl ?_
        refine aw_iconst (v := 1) 1126 dL_law_1125 rfl (by decide) ?_
        refine aw_iadd 1127 dL_law_1126 rfl ?_
        obtain ⟨g235, H⟩ := H
        refine aw_iald 1128 dL_law_1127 rfl (Or.inr (shp g1)) g235 ?_
        refine aw_aload_n 1129 dL_law_1128 rfl rfl ?_
        refine aw_iload_n 1130 dL_law_1129 rfl rfl ?_
        refine aw_iconst (v := 2) 1131 dL_law_1130 rfl (by decide) ?_
        refine aw_iadd 1132 dL_law_1131 rfl ?_
        obtain ⟨g236, H⟩ := H
        refine aw_iald 1133 dL_law_1132 rfl (Or.inr (shp g1)) g236 ?_
        obtain ⟨g237, H⟩ := H
        refine aw_callV (stk := []) (ci := 9) [.int (hI h a0 (x3 + 1).toNatClampNeg), .int (hI h a0 (x3 + 2).toNatClampNeg)] 1136 dL_law_1133 rfl mv_L_132 ⟨by decide, by decide⟩ g237 (by intro r hr; cases hr; rfl) rfl rfl (by simp [Value.category]) (by decide) H ?_
        rintro _ h61 ⟨r61, rfl, H⟩
        refine aw_aload_n 1137 dL_law_1136 rfl rfl ?_
        refine aw_aload_n 1138 dL_law_1137 rfl rfl ?_
        refine aw_iload_n 1139 dL_law_1138 rfl rfl ?_
        refine aw_iconst (v := 1) 1140 dL_law_1139 rfl (by decide) ?_
        refine aw_iadd 1141 dL_law_1140 rfl ?_
        obtain ⟨g238, H⟩ := H
        obtain ⟨g239, H⟩ := H
        refine aw_iald 1142 dL_law_1141 rfl (Or.inr (shp g238)) g239 ?_
        refine aw_aload_n 1143 dL_law_1142 rfl rfl ?_
        refine aw_iload_n 1144 dL_law_1143 rfl rfl ?_
        refine aw_iconst (v := 2) 1145 dL_law_1144 rfl (by decide) ?_
        refine aw_iadd 1146 dL_law_1145 rfl ?_
        obtain ⟨g240, H⟩ := H
        refine aw_iald 1147 dL_law_1146 rfl (Or.inr (shp g238)) g240 ?_
        obtain ⟨g241, H⟩ := H
        refine aw_callV (stk := [.int r61]) (ci := 10) [.int (hI h61 a0 (x3 + 1).toNatClampNeg), .int (hI h61 a0 (x3 + 2).toNatClampNeg)] 1150 dL_law_1147 rfl mv_L_135 ⟨by decide, by decide⟩ g241 (by intro r hr; cases hr; rfl) rfl rfl (by simp [Value.category]) (by decide) H ?_
        rintro _ h62 ⟨r62, rfl, H⟩
        refine aw_icmp_eq 1356 1153 dL_law_1150 rfl (by decide) (fun c242 => ?_) (fun c242 => ?_)
        · replace H := H.1 c242
          refine aw_iinc (y := 6) (loc' := [some (.ref a0), some (.ref a1), some (.ref a2), some (.int (x3 + 6))]) 1359 dL_law_1356 rfl (by decide) rfl (by decide) rfl ?_
          refine aw_goto 18 dL_law_1359 (by decide) ?_
          exact H
        · replace H := H.2 c242
          refine aw_iconst (v := 0) 1154 dL_law_1153 rfl (by decide) ?_
          exact aw_zreturn dL_law_1154 rfl (by decide) (by decide) (by decide) ⟨_, rfl, H⟩
      · refine aw_tableIn 1155 dL_law_33 c4a c4b (by rw [c4e]; rfl) (by decide) ?_
        replace H := H.2.2.2.2.2.2.2.2.2.2.2.2.2.2.2.2.2.2.2.2.2.2.2.2.2.2.2.2.2.1 c4e
        refine aw_aload_n 1156 dL_law_1155 rfl rfl ?_
        refine aw_aload_n 1157 dL_law_1156 rfl rfl ?_
        refine aw_iload_n 1158 dL_law_1157 rfl rfl ?_
        refine aw_iconst (v := 1) 1159 dL_law_1158 rfl (by decide) ?_
        refine aw_iadd 1160 dL_law_1159 rfl ?_
        obtain ⟨g243, H⟩ := H
        refine aw_iald 1161 dL_law_1160 rfl (Or.inr (shp g1)) g243 ?_
        obtain ⟨g244, H⟩ := H
        refine aw_callV (stk := []) (ci := 9) [.int (hI h a0 (x3 + 1).toNatClampNeg)] 1164 dL_law_1161 rfl mv_L_136 ⟨by decide, by decide⟩ g244 (by intro r hr; cases hr; rfl) rfl rfl (by simp [Value.category]) (by decide) H ?_
        rintro _ h63 ⟨r63, rfl, H⟩
        refine aw_aload_n 1165 dL_law_1164 rfl rfl ?_
        refine aw_aload_n 1166 dL_law_1165 rfl rfl ?_
        refine aw_iload_n 1167 dL_law_1166 rfl rfl ?_
        refine aw_iconst (v := 1) 1168 dL_law_1167 rfl (by decide) ?_
        refine aw_iadd 1169 dL_law_1168 rfl ?_
        obtain ⟨g245, H⟩ := H
        obtain ⟨g246, H⟩ := H
        refine aw_iald 1170 dL_law_1169 rfl (Or.inr (shp g245)) g246 ?_
        obtain ⟨g247, H⟩ := H
        refine aw_callV (stk := [.int r63]) (ci := 10) [.int (hI h63 a0 (x3 + 1).toNatClampNeg)] 1173 dL_law_1170 rfl mv_L_139 ⟨by decide, by decide⟩ g247 (by intro r hr; cases hr; rfl) rfl rfl (by simp [Value.category]) (by decide) H ?_
        rintro _ h64 ⟨r64, rfl, H⟩
        refine aw_icmp_eq 1356 1176 dL_law_1173 rfl (by decide) (fun c248 => ?_) (fun c248 => ?_)
        · replace H := H.1 c248
          refine aw_iinc (y := 6) (loc' := [some (.ref a0), some (.ref a1), some (.ref a2), some (.int (x3 + 6))]) 1359 dL_law_1356 rfl (by decide) rfl (by decide) rfl ?_
          refine aw_goto 18 dL_law_1359 (by decide) ?_
          exact H
        · replace H := H.2 c248
          refine aw_iconst (v := 0) 1177 dL_law_1176 rfl (by decide) ?_
          exact aw_zreturn dL_law_1177 rfl (by decide) (by decide) (by decide) ⟨_, rfl, H⟩
      · refine aw_tableIn 1178 dL_law_33 c4a c4b (by rw [c4e]; rfl) (by decide) ?_
        replace H := H.2.2.2.2.2.2.2.2.2.2.2.2.2.2.2.2.2.2.2.2.2.2.2.2.2.2.2.2.2.2.1 c4e
        refine aw_aload_n 1179 dL_law_1178 rfl rfl ?_
        refine aw_aload_n 1180 dL_law_1179 rfl rfl ?_
        refine aw_iload_n 1181 dL_law_1180 rfl rfl ?_
        refine aw_iconst (v := 1) 1182 dL_law_1181 rfl (by decide) ?_
        refine aw_iadd 1183 dL_law_1182 rfl ?_
        obtain ⟨g249, H⟩ := H
        refine aw_iald 1184 dL_law_1183 rfl (Or.inr (shp g1)) g249 ?_
        obtain ⟨g250, H⟩ := H
        refine aw_callV (stk := []) (ci := 9) [.int (hI h a0 (x3 + 1).toNatClampNeg)] 1187 dL_law_1184 rfl mv_L_140 ⟨by decide, by decide⟩ g250 (by intro r hr; cases hr; rfl) rfl rfl (by simp [Value.category]) (by decide) H ?_
        rintro _ h65 ⟨r65, rfl, H⟩
        refine aw_aload_n 1188 dL_law_1187 rfl rfl ?_
        refine aw_aload_n 1189 dL_law_1188 rfl rfl ?_
        refine aw_iload_n 1190 dL_law_1189 rfl rfl ?_
        refine aw_iconst (v := 1) 1191 dL_law_1190 rfl (by decide) ?_
        refine aw_iadd 1192 dL_law_1191 rfl ?_
        obtain ⟨g251, H⟩ := H
        obtain ⟨g252, H⟩ := H
        refine aw_iald 1193 dL_law_1192 rfl (Or.inr (shp g251)) g252 ?_
        obtain ⟨g253, H⟩ := H
        refine aw_callV (stk := [.int r65]) (ci := 10) [.int (hI h65 a0 (x3 + 1).toNatClampNeg)] 1196 dL_law_1193 rfl mv_L_143 ⟨by decide, by decide⟩ g253 (by intro r hr; cases hr; rfl) rfl rfl (by simp [Value.category]) (by decide) H ?_
        rintro _ h66 ⟨r66, rfl, H⟩
        refine aw_icmp_eq 1356 1199 dL_law_1196 rfl (by decide) (fun c254 => ?_) (fun c254 => ?_)
        · replace H := H.1 c254
          refine aw_iinc (y := 6) (loc' := [some (.ref a0), some (.ref a1), some (.ref a2), some (.int (x3 + 6))]) 1359 dL_law_1356 rfl (by decide) rfl (by decide) rfl ?_
          refine aw_goto 18 dL_law_1359 (by decide) ?_
          exact H
        · replace H := H.2 c254
          refine aw_iconst (v := 0) 1200 dL_law_1199 rfl (by decide) ?_
          exact aw_zreturn dL_law_1200 rfl (by decide) (by decide) (by decide) ⟨_, rfl, H⟩
      · refine aw_tableIn 1201 dL_law_33 c4a c4b (by rw [c4e]; rfl) (by decide) ?_
        replace H := H.2.2.2.2.2.2.2.2.2.2.2.2.2.2.2.2.2.2.2.2.2.2.2.2.2.2.2.2.2.2.2.1 c4e
        refine aw_aload_n 1202 dL_law_1201 rfl rfl ?_
        refine aw_aload_n 1203 dL_law_1202 rfl rfl ?_
        refine aw_iload_n 1204 dL_law_1203 rfl rfl ?_
        refine aw_iconst (v := 1) 1205 dL_law_1204 rfl (by decide) ?_
        refine aw_iadd 1206 dL_law_1205 rfl ?_
        obtain ⟨g255, H⟩ := H
        refine aw_iald 1207 dL_law_1206 rfl (Or.inr (shp g1)) g255 ?_
        refine aw_aload_n 1208 dL_law_1207 rfl rfl ?_
        refine aw_iload_n 1209 dL_law_1208 rfl rfl ?_
        refine aw_iconst (v := 2) 1210 dL_law_1209 rfl (by decide) ?_
        refine aw_iadd 1211 dL_law_1210 rfl ?_
        obtain ⟨g256, H⟩ := H
        refine aw_iald 1212 dL_law_1211 rfl (Or.inr (shp g1)) g256 ?_
        refine aw_aload_n 1213 dL_law_1212 rfl rfl ?_
        refine aw_iload_n 1214 dL_law_1213 rfl rfl ?_
        refine aw_iconst (v := 3) 1215 dL_law_1214 rfl (by decide) ?_
        refine aw_iadd 1216 dL_law_1215 rfl ?_
        obtain ⟨g257, H⟩ := H
        refine aw_iald 1217 dL_law_1216 rfl (Or.inr (shp g1)) g257 ?_
        obtain ⟨g258, H⟩ := H
        refine aw_callV (stk := []) (ci := 9) [.int (hI h a0 (x3 + 1).toNatClampNeg), .int (hI h a0 (x3 + 2).toNatClampNeg), .int (hI h a0 (x3 + 3).toNatClampNeg)] 1220 dL_law_1217 rfl mv_L_144 ⟨by decide, by decide⟩ g258 (by intro r hr; cases hr; rfl) rfl rfl (by simp [Value.category]) (by decide) H ?_
        rintro _ h67 ⟨r67, rfl, H⟩
        refine aw_aload_n 1221 dL_law_1220 rfl rfl ?_
        refine aw_aload_n 1222 dL_law_1221 rfl rfl ?_
        refine aw_iload_n 1223 dL_law_1222 rfl rfl ?_
        refine aw_iconst (v := 1) 1224 dL_law_1223 rfl (by decide) ?_
        refine aw_iadd 1225 dL_law_1224 rfl ?_
        obtain ⟨g259, H⟩ := H
        obtain ⟨g260, H⟩ := H
        refine aw_iald 1226 dL_law_1225 rfl (Or.inr (shp g259)) g260 ?_
        refine aw_aload_n 1227 dL_law_1226 rfl rfl ?_
        refine aw_iload_n 1228 dL_law_1227 rfl rfl ?_
        refine aw_iconst (v := 2) 1229 dL_law_1228 rfl (by decide) ?_
        refine aw_iadd 1230 dL_law_1229 rfl ?_
        obtain ⟨g261, H⟩ := H
        refine aw_iald 1231 dL_law_1230 rfl (Or.inr (shp g259)) g261 ?_
        refine aw_aload_n 1232 dL_law_1231 rfl rfl ?_
        refine aw_iload_n 1233 dL_law_1232 rfl rfl ?_
        refine aw_iconst (v := 3) 1234 dL_law_1233 rfl (by decide) ?_
        refine aw_iadd 1235 dL_law_1234 rfl ?_
        obtain ⟨g262, H⟩ := H
        refine aw_iald 1236 dL_law_1235 rfl (Or.inr (shp g259)) g262 ?_
        obtain ⟨g263, H⟩ := H
        refine aw_callV (stk := [.int r67]) (ci := 10) [.int (hI h67 a0 (x3 + 1).toNatClampNeg), .int (hI h67 a0 (x3 + 2).toNatClampNeg), .int (hI h67 a0 (x3 + 3).toNatClampNeg)] 1239 dL_law_1236 rfl mv_L_147 ⟨by decide, by decide⟩ g263 (by intro r hr; cases hr; rfl) rfl rfl (by simp [Value.category]) (by decide) H ?_
        rintro _ h68 ⟨r68, rfl, H⟩
        refine aw_icmp_eq 1356 1242 dL_law_1239 rfl (by decide) (fun c264 => ?_) (fun c264 => ?_)
        · replace H := H.1 c264
          refine aw_iinc (y := 6) (loc' := [some (.ref a0), some (.ref a1), some (.ref a2), some (.int (x3 + 6))]) 1359 dL_law_1356 rfl (by decide) rfl (by decide) rfl ?_
          refine aw_goto 18 dL_law_1359 (by decide) ?_
          exact H
        · replace H := H.2 c264
          refine aw_iconst (v := 0) 1243 dL_law_1242 rfl (by decide) ?_
          exact aw_zreturn dL_law_1243 rfl (by decide) (by decide) (by decide) ⟨_, rfl, H⟩
      · refine aw_tableIn 1244 dL_law_33 c4a c4b (by rw [c4e]; rfl) (by decide) ?_
        replace H := H.2.2.2.2.2.2.2.2.2.2.2.2.2.2.2.2.2.2.2.2.2.2.2.2.2.2.2.2.2.2.2.2.1 c4e
        refine aw_aload_n 1245 dL_law_1244 rfl rfl ?_
        refine aw_aload_n 1246 dL_law_1245 rfl rfl ?_
        refine aw_iload_n 1247 dL_law_1246 rfl rfl ?_
        refine aw_iconst (v := 1) 1248 dL_law_1247 rfl (by decide) ?_
        refine aw_iadd 1249 dL_law_1248 rfl ?_
        obtain ⟨g265, H⟩ := H
        refine aw_iald 1250 dL_law_1249 rfl (Or.inr (shp g1)) g265 ?_
        refine aw_aload_n 1251 dL_law_1250 rfl rfl ?_
        refine aw_iload_n 1252 dL_law_1251 rfl rfl ?_
        refine aw_iconst (v := 2) 1253 dL_law_1252 rfl (by decide) ?_
        refine aw_iadd 1254 dL_law_1253 rfl ?_
        obtain ⟨g266, H⟩ := H
        refine aw_iald 1255 dL_law_1254 rfl (Or.inr (shp g1)) g266 ?_
        obtain ⟨g267, H⟩ := H
        refine aw_callV (stk := []) (ci := 9) [.int (hI h a0 (x3 + 1).toNatClampNeg), .int (hI h a0 (x3 + 2).toNatClampNeg)] 1258 dL_law_1255 rfl mv_L_148 ⟨by decide, by decide⟩ g267 (by intro r hr; cases hr; rfl) rfl rfl (by simp [Value.category]) (by decide) H ?_
        rintro _ h69 ⟨r69, rfl, H⟩
        refine aw_aload_n 1259 dL_law_1258 rfl rfl ?_
        refine aw_aload_n 1260 dL_law_1259 rfl rfl ?_
        refine aw_iload_n 1261 dL_law_1260 rfl rfl ?_
        refine aw_iconst (v := 1) 1262 dL_law_1261 rfl (by decide) ?_
        refine aw_iadd 1263 dL_law_1262 rfl ?_
        obtain ⟨g268, H⟩ := H
        obtain ⟨g269, H⟩ := H
        refine aw_iald 1264 dL_law_1263 rfl (Or.inr (shp g268)) g269 ?_
        refine aw_aload_n 1265 dL_law_1264 rfl rfl ?_
        refine aw_iload_n 1266 dL_law_1265 rfl rfl ?_
        refine aw_iconst (v := 2) 1267 dL_law_1266 rfl (by decide) ?_
        refine aw_iadd 1268 dL_law_1267 rfl ?_
        obtain ⟨g270, H⟩ := H
        refine aw_iald 1269 dL_law_1268 rfl (Or.inr (shp g268)) g270 ?_
        obtain ⟨g271, H⟩ := H
        refine aw_callV (stk := [.int r69]) (ci := 10) [.int (hI h69 a0 (x3 + 1).toNatClampNeg), .int (hI h69 a0 (x3 + 2).toNatClampNeg)] 1272 dL_law_1269 rfl mv_L_151 ⟨by decide, by decide⟩ g271 (by intro r hr; cases hr; rfl) rfl rfl (by simp [Value.category]) (by decide) H ?_
        rintro _ h70 ⟨r70, rfl, H⟩
        refine aw_icmp_eq 1356 1275 dL_law_1272 rfl (by decide) (fun c272 => ?_) (fun c272 => ?_)
        · replace H := H.1 c272
          refine aw_iinc (y := 6) (loc' := [some (.ref a0), some (.ref a1), some (.ref a2), some (.int (x3 + 6))]) 1359 dL_law_1356 rfl (by decide) rfl (by decide) rfl ?_
          refine aw_goto 18 dL_law_1359 (by decide) ?_
          exact H
        · replace H := H.2 c272
          refine aw_iconst (v := 0) 1276 dL_law_1275 rfl (by decide) ?_
          exact aw_zreturn dL_law_1276 rfl (by decide) (by decide) (by decide) ⟨_, rfl, H⟩
      · refine aw_tableIn 1277 dL_law_33 c4a c4b (by rw [c4e]; rfl) (by decide) ?_
        replace H := H.2.2.2.2.2.2.2.2.2.2.2.2.2.2.2.2.2.2.2.2.2.2.2.2.2.2.2.2.2.2.2.2.2.1 c4e
        refine aw_aload_n 1278 dL_law_1277 rfl rfl ?_
        refine aw_aload_n 1279 dL_law_1278 rfl rfl ?_
        refine aw_iload_n 1280 dL_law_1279 rfl rfl ?_
        refine aw_iconst (v := 1) 1281 dL_law_1280 rfl (by decide) ?_
        refine aw_iadd 1282 dL_law_1281 rfl ?_
        obtain ⟨g273, H⟩ := H
        refine aw_iald 1283 dL_law_1282 rfl (Or.inr (shp g1)) g273 ?_
        refine aw_aload_n 1284 dL_law_1283 rfl rfl ?_
        refine aw_iload_n 1285 dL_law_1284 rfl rfl ?_
        refine aw_iconst (v := 2) 1286 dL_law_1285 rfl (by decide) ?_
        refine aw_iadd 1287 dL_law_1286 rfl ?_
        obtain ⟨g274, H⟩ := H
        refine aw_iald 1288 dL_law_1287 rfl (Or.inr (shp g1)) g274 ?_
        refine aw_aload_n 1289 dL_law_1288 rfl rfl ?_
        refine aw_iload_n 1290 dL_law_1289 rfl rfl ?_
        refine aw_iconst (v := 3) 1291 dL_law_1290 rfl (by decide) ?_
        refine aw_iadd 1292 dL_law_1291 rfl ?_
        obtain ⟨g275, H⟩ := H
        refine aw_iald 1293 dL_law_1292 rfl (Or.inr (shp g1)) g275 ?_
        obtain ⟨g276, H⟩ := H
        refine aw_callV (stk := []) (ci := 9) [.int (hI h a0 (x3 + 1).toNatClampNeg), .int (hI h a0 (x3 + 2).toNatClampNeg), .int (hI h a0 (x3 + 3).toNatClampNeg)] 1296 dL_law_1293 rfl mv_L_152 ⟨by decide, by decide⟩ g276 (by intro r hr; cases hr; rfl) rfl rfl (by simp [Value.category]) (by decide) H ?_
        rintro _ h71 ⟨r71, rfl, H⟩
        refine aw_aload_n 1297 dL_law_1296 rfl rfl ?_
        refine aw_aload_n 1298 dL_law_1297 rfl rfl ?_
        refine aw_iload_n 1299 dL_law_1298 rfl rfl ?_
        refine aw_iconst (v := 1) 1300 dL_law_1299 rfl (by decide) ?_
        refine aw_iadd 1301 dL_law_1300 rfl ?_
        obtain ⟨g277, H⟩ := H
        obtain ⟨g278, H⟩ := H
        refine aw_iald 1302 dL_law_1301 rfl (Or.inr (shp g277)) g278 ?_
        refine aw_aload_n 1303 dL_law_1302 rfl rfl ?_
        refine aw_iload_n 1304 dL_law_1303 rfl rfl ?_
        refine aw_iconst (v := 2) 1305 dL_law_1304 rfl (by decide) ?_
        refine aw_iadd 1306 dL_law_1305 rfl ?_
        obtain ⟨g279, H⟩ := H
        refine aw_iald 1307 dL_law_1306 rfl (Or.inr (shp g277)) g279 ?_
        refine aw_aload_n 1308 dL_law_1307 rfl rfl ?_
        refine aw_iload_n 1309 dL_law_1308 rfl rfl ?_
        refine aw_iconst (v := 3) 1310 dL_law_1309 rfl (by decide) ?_
        refine aw_iadd 1311 dL_law_1310 rfl ?_
        obtain ⟨g280, H⟩ := H
        refine aw_iald 1312 dL_law_1311 rfl (Or.inr (shp g277)) g280 ?_
        obtain ⟨g281, H⟩ := H
        refine aw_callV (stk := [.int r71]) (ci := 10) [.int (hI h71 a0 (x3 + 1).toNatClampNeg), .int (hI h71 a0 (x3 + 2).toNatClampNeg), .int (hI h71 a0 (x3 + 3).toNatClampNeg)] 1315 dL_law_1312 rfl mv_L_155 ⟨by decide, by decide⟩ g281 (by intro r hr; cases hr; rfl) rfl rfl (by simp [Value.category]) (by decide) H ?_
        rintro _ h72 ⟨r72, rfl, H⟩
        refine aw_icmp_eq 1356 1318 dL_law_1315 rfl (by decide) (fun c282 => ?_) (fun c282 => ?_)
        · replace H := H.1 c282
          refine aw_iinc (y := 6) (loc' := [some (.ref a0), some (.ref a1), some (.ref a2), some (.int (x3 + 6))]) 1359 dL_law_1356 rfl (by decide) rfl (by decide) rfl ?_
          refine aw_goto 18 dL_law_1359 (by decide) ?_
          exact H
        · replace H := H.2 c282
          refine aw_iconst (v := 0) 1319 dL_law_1318 rfl (by decide) ?_
          exact aw_zreturn dL_law_1319 rfl (by decide) (by decide) (by decide) ⟨_, rfl, H⟩
      · refine aw_tableIn 1320 dL_law_33 c4a c4b (by rw [c4e]; rfl) (by decide) ?_
        replace H := H.2.2.2.2.2.2.2.2.2.2.2.2.2.2.2.2.2.2.2.2.2.2.2.2.2.2.2.2.2.2.2.2.2.2.1 c4e
        refine aw_aload_n 1321 dL_law_1320 rfl rfl ?_
        refine aw_aload_n 1322 dL_law_1321 rfl rfl ?_
        refine aw_iload_n 1323 dL_law_1322 rfl rfl ?_
        refine aw_iconst (v := 1) 1324 dL_law_1323 rfl (by decide) ?_
        refine aw_iadd 1325 dL_law_1324 rfl ?_
        obtain ⟨g283, H⟩ := H
        refine aw_iald 1326 dL_law_1325 rfl (Or.inr (shp g1)) g283 ?_
        obtain ⟨g284, H⟩ := H
        refine aw_callV (stk := []) (ci := 9) [.int (hI h a0 (x3 + 1).toNatClampNeg)] 1329 dL_law_1326 rfl mv_L_156 ⟨by decide, by decide⟩ g284 (by intro r hr; cases hr; rfl) rfl rfl (by simp [Value.category]) (by decide) H ?_
        rintro _ h73 ⟨r73, rfl, H⟩
        refine aw_aload_n 1330 dL_law_1329 rfl rfl ?_
        refine aw_aload_n 1331 dL_law_1330 rfl rfl ?_
        refine aw_iload_n 1332 dL_law_1331 rfl rfl ?_
        refine aw_iconst (v := 1) 1333 dL_law_1332 rfl (by decide) ?_
        refine aw_iadd 1334 dL_law_1333 rfl ?_
        obtain ⟨g285, H⟩ := H
        obtain ⟨g286, H⟩ := H
        refine aw_iald 1335 dL_law_1334 rfl (Or.inr (shp g285)) g286 ?_
        obtain ⟨g287, H⟩ := H
        refine aw_callV (stk := [.int r73]) (ci := 10) [.int (hI h73 a0 (x3 + 1).toNatClampNeg)] 1338 dL_law_1335 rfl mv_L_159 ⟨by decide, by decide⟩ g287 (by intro r hr; cases hr; rfl) rfl rfl (by simp [Value.category]) (by decide) H ?_
        rintro _ h74 ⟨r74, rfl, H⟩
        refine aw_icmp_eq 1356 1341 dL_law_1338 rfl (by decide) (fun c288 => ?_) (fun c288 => ?_)
        · replace H := H.1 c288
          refine aw_iinc (y := 6) (loc' := [some (.ref a0), some (.ref a1), some (.ref a2), some (.int (x3 + 6))]) 1359 dL_law_1356 rfl (by decide) rfl (by decide) rfl ?_
          refine aw_goto 18 dL_law_1359 (by decide) ?_
          exact H
        · replace H := H.2 c288
          refine aw_iconst (v := 0) 1342 dL_law_1341 rfl (by decide) ?_
          exact aw_zreturn dL_law_1342 rfl (by decide) (by decide) (by decide) ⟨_, rfl, H⟩
      · refine aw_tableIn 1343 dL_law_33 c4a c4b (by rw [c4e]; rfl) (by decide) ?_
        replace H := H.2.2.2.2.2.2.2.2.2.2.2.2.2.2.2.2.2.2.2.2.2.2.2.2.2.2.2.2.2.2.2.2.2.2.2 c4e
        refine aw_aload_n 1344 dL_law_1343 rfl rfl ?_
        obtain ⟨g289, H⟩ := H
        refine aw_callV (stk := []) (ci := 9) [] 1347 dL_law_1344 rfl mv_L_160 ⟨by decide, by decide⟩ g289 (by intro r hr; cases hr; rfl) rfl rfl (by simp [Value.category]) (by decide) H ?_
        rintro _ h75 ⟨r75, rfl, H⟩
        refine aw_aload_n 1348 dL_law_1347 rfl rfl ?_
        obtain ⟨g290, H⟩ := H
        refine aw_callV (stk := [.int r75]) (ci := 10) [] 1351 dL_law_1348 rfl mv_L_163 ⟨by decide, by decide⟩ g290 (by intro r hr; cases hr; rfl) rfl rfl (by simp [Value.category]) (by decide) H ?_
        rintro _ h76 ⟨r76, rfl, H⟩
        refine aw_icmp_eq 1356 1354 dL_law_1351 rfl (by decide) (fun c291 => ?_) (fun c291 => ?_)
        · replace H := H.1 c291
          refine aw_iinc (y := 6) (loc' := [some (.ref a0), some (.ref a1), some (.ref a2), some (.int (x3 + 6))]) 1359 dL_law_1356 rfl (by decide) rfl (by decide) rfl ?_
          refine aw_goto 18 dL_law_1359 (by decide) ?_
          exact H
        · replace H := H.2 c291
          refine aw_iconst (v := 0) 1355 dL_law_1354 rfl (by decide) ?_
          exact aw_zreturn dL_law_1355 rfl (by decide) (by decide) (by decide) ⟨_, rfl, H⟩
