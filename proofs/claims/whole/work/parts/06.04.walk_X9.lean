set_option maxHeartbeats 4000000 in
set_option maxRecDepth 100000 in
theorem sX9_price_0 {w : Wd} {Q : Int32 → Hp → Prop} {h : Hp} {a0 : Nat} {x1 : Int32} {x2 : Int32} {x3 : Int32} (H : ((x1 < 0 → Q (-100002) h) ∧ (¬ x1 < 0 → ((x1 < 7 → (hs h a0).1 = 29 ∧ hR h a0 3 ≠ 0 ∧ (hs h (hR h a0 3)).1 = 9 ∧ vp_in 0 (hs h (hR h a0 3)).2 ∧ hR h (hR h a0 3) (0 : Int32).toNatClampNeg ≠ 0 ∧ (hs h 1).1 = 4 ∧ vp_in x1 (hs h 1).2 ∧ (hs h (hR h (hR h a0 3) (0 : Int32).toNatClampNeg)).1 = 20 ∧ AC w mX0_hasRun 0 0 (rI fun r1 h1 => ((r1 = 0 → Q (-100001) h1) ∧ (¬ r1 = 0 → (hs h1 a0).1 = 29 ∧ hR h1 a0 3 ≠ 0 ∧ (hs h1 (hR h1 a0 3)).1 = 9 ∧ vp_in 1 (hs h1 (hR h1 a0 3)).2 ∧ hR h1 (hR h1 a0 3) (1 : Int32).toNatClampNeg ≠ 0 ∧ (hs h1 2).1 = 4 ∧ vp_in x1 (hs h1 2).2 ∧ (hs h1 (hR h1 (hR h1 a0 3) (1 : Int32).toNatClampNeg)).1 = 20 ∧ AC w mX0_hasRun 0 0 (rI fun r2 h2 => ((¬ r2 = 0 → (hs h2 a0).1 = 29 ∧ AC w mX9_layAnew 0 0 (rV fun h3 => (hs h3 a0).1 = 29 ∧ hR h3 a0 7 ≠ 0 ∧ (hs h3 (hR h3 a0 7)).1 = 27 ∧ AC w mX7_priceAt 0 0 (rI fun r4 h4 => Q r4 h4) [.ref (hR h3 a0 7), .int x1, .int x2, .int x3] h3) [.ref a0] h2) ∧ (r2 = 0 → Q (-100001) h2))) [.ref (hR h1 (hR h1 a0 3) (1 : Int32).toNatClampNeg), .int x3, .int (hI h1 2 x1.toNatClampNeg)] h1))) [.ref (hR h (hR h a0 3) (0 : Int32).toNatClampNeg), .int x2, .int (hI h 1 x1.toNatClampNeg)] h) ∧ (¬ x1 < 7 → Q (-100002) h))))) : AW w mX9_price 0 0 (rI Q) 0 0 0 [some (.ref a0), some (.int x1), some (.int x2), some (.int x3)] [] h := by
  refine aw_iload_n 1 dX9_price_0 rfl rfl ?_
  refine aw_if_lt 10 4 dX9_price_1 rfl (by decide) (fun c1 => ?_) (fun c1 => ?_)
  · replace H := H.1 c1
    refine aw_ldc 12 dX9_price_10 rfl kc_X9_99 ?_
    exact aw_ireturn dX9_price_12 rfl (by decide) (by decide) ⟨_, rfl, H⟩
  · replace H := H.2 c1
    refine aw_iload_n 5 dX9_price_4 rfl rfl ?_
    refine aw_bipush (v := 7) 7 dX9_price_5 rfl (by decide) ?_
    refine aw_icmp_lt 13 10 dX9_price_7 rfl (by decide) (fun c2 => ?_) (fun c2 => ?_)
    · replace H := H.1 c2
      refine aw_aload_n 14 dX9_price_13 rfl rfl ?_
      obtain ⟨g3, H⟩ := H
      obtain ⟨g4, H⟩ := H
      refine aw_getR 17 dX9_price_14 rfl fl_X9_37 ir_9_3 g3 rfl g4 ?_
      refine aw_iconst (v := 0) 18 dX9_price_17 rfl (by decide) ?_
      obtain ⟨g5, H⟩ := H
      obtain ⟨g6, H⟩ := H
      obtain ⟨g7, H⟩ := H
      refine aw_aald 19 dX9_price_18 rfl (shp g5) (by decide) g6 rfl g7 ?_
      refine aw_iload_n 20 dX9_price_19 rfl rfl ?_
      refine aw_gets (j := 1) 23 dX9_price_20 rfl (by decide) gs_X9_212 ?_
      refine aw_iload_n 24 dX9_price_23 rfl rfl ?_
      obtain ⟨g8, H⟩ := H
      obtain ⟨g9, H⟩ := H
      refine aw_iald 25 dX9_price_24 rfl (Or.inr (shp g8)) g9 ?_
      obtain ⟨g10, H⟩ := H
      refine aw_callV (stk := []) (ci := 0) [.int x2, .int (hI h 1 x1.toNatClampNeg)] 28 dX9_price_25 rfl mv_X9_215 ⟨by decide, by decide⟩ g10 (by intro r hr; cases hr; rfl) rfl rfl (by simp [Value.category]) (by decide) H ?_
      rintro _ h1 ⟨r1, rfl, H⟩
      refine aw_if_eq 49 31 dX9_price_28 rfl (by decide) (fun c11 => ?_) (fun c11 => ?_)
      · replace H := H.1 c11
        refine aw_ldc 51 dX9_price_49 rfl kc_X9_123 ?_
        exact aw_ireturn dX9_price_51 rfl (by decide) (by decide) ⟨_, rfl, H⟩
      · replace H := H.2 c11
        refine aw_aload_n 32 dX9_price_31 rfl rfl ?_
        obtain ⟨g12, H⟩ := H
        obtain ⟨g13, H⟩ := H
        refine aw_getR 35 dX9_price_32 rfl fl_X9_37 ir_9_3 g12 rfl g13 ?_
        refine aw_iconst (v := 1) 36 dX9_price_35 rfl (by decide) ?_
        obtain ⟨g14, H⟩ := H
        obtain ⟨g15, H⟩ := H
        obtain ⟨g16, H⟩ := H
        refine aw_aald 37 dX9_price_36 rfl (shp g14) (by decide) g15 rfl g16 ?_
        refine aw_iload_n 38 dX9_price_37 rfl rfl ?_
        refine aw_gets (j := 2) 41 dX9_price_38 rfl (by decide) gs_X9_218 ?_
        refine aw_iload_n 42 dX9_price_41 rfl rfl ?_
        obtain ⟨g17, H⟩ := H
        obtain ⟨g18, H⟩ := H
        refine aw_iald 43 dX9_price_42 rfl (Or.inr (shp g17)) g18 ?_
        obtain ⟨g19, H⟩ := H
        refine aw_callV (stk := []) (ci := 0) [.int x3, .int (hI h1 2 x1.toNatClampNeg)] 46 dX9_price_43 rfl mv_X9_215 ⟨by decide, by decide⟩ g19 (by intro r hr; cases hr; rfl) rfl rfl (by simp [Value.category]) (by decide) H ?_
        rintro _ h2 ⟨r2, rfl, H⟩
        refine aw_if_ne 52 49 dX9_price_46 rfl (by decide) (fun c20 => ?_) (fun c20 => ?_)
        · replace H := H.1 c20
          refine aw_aload_n 53 dX9_price_52 rfl rfl ?_
          obtain ⟨g21, H⟩ := H
          refine aw_callV (stk := []) (ci := 9) [] 56 dX9_price_53 rfl mv_X9_188 ⟨by decide, by decide⟩ g21 (by intro r hr; cases hr; rfl) rfl rfl (by simp [Value.category]) (by decide) H ?_
          rintro _ h3 ⟨rfl, H⟩
          refine aw_aload_n 57 dX9_price_56 rfl rfl ?_
          obtain ⟨g22, H⟩ := H
          obtain ⟨g23, H⟩ := H
          refine aw_getR 60 dX9_price_57 rfl fl_X9_64 ir_9_7 g22 rfl g23 ?_
          refine aw_iload_n 61 dX9_price_60 rfl rfl ?_
          refine aw_iload_n 62 dX9_price_61 rfl rfl ?_
          refine aw_iload_n 63 dX9_price_62 rfl rfl ?_
          obtain ⟨g24, H⟩ := H
          refine aw_callV (stk := []) (ci := 7) [.int x1, .int x2, .int x3] 66 dX9_price_63 rfl mv_X9_221 ⟨by decide, by decide⟩ g24 (by intro r hr; cases hr; rfl) rfl rfl (by simp [Value.category]) (by decide) H ?_
          rintro _ h4 ⟨r4, rfl, H⟩
          exact aw_ireturn dX9_price_66 rfl (by decide) (by decide) ⟨_, rfl, H⟩
        · replace H := H.2 c20
          refine aw_ldc 51 dX9_price_49 rfl kc_X9_123 ?_
          exact aw_ireturn dX9_price_51 rfl (by decide) (by decide) ⟨_, rfl, H⟩
    · replace H := H.2 c2
      refine aw_ldc 12 dX9_price_10 rfl kc_X9_99 ?_
      exact aw_ireturn dX9_price_12 rfl (by decide) (by decide) ⟨_, rfl, H⟩
theorem eX9_price {w : Wd} {Q : Int32 → Hp → Prop} {h : Hp} {a0 : Nat} {x1 : Int32} {x2 : Int32} {x3 : Int32} (H : AW w mX9_price 0 0 (rI Q) 0 0 0 [some (.ref a0), some (.int x1), some (.int x2), some (.int x3)] [] h) : AC w mX9_price 0 0 (rI Q) [.ref a0, .int x1, .int x2, .int x3] h := AC.ofL (by decide) (by simp [enl, Value.category]) (by simp [leL, enl, Value.category]) H
set_option maxHeartbeats 4000000 in
set_option maxRecDepth 100000 in
theorem sX9_rest_0 {w : Wd} {Q : Int32 → Hp → Prop} {h : Hp} {a0 : Nat} {x1 : Int32} {x2 : Int32} (H : ((x1 < 0 → Q (-100001) h) ∧ (¬ x1 < 0 → (hs h a0).1 = 29 ∧ hR h a0 3 ≠ 0 ∧ (hs h (hR h a0 3)).1 = 9 ∧ vp_in 0 (hs h (hR h a0 3)).2 ∧ hR h (hR h a0 3) (0 : Int32).toNatClampNeg ≠ 0 ∧ (hs h (hR h (hR h a0 3) (0 : Int32).toNatClampNeg)).1 = 20 ∧ (((hI h (hR h (hR h a0 3) (0 : Int32).toNatClampNeg) 5) < x1 → Q (-100001) h) ∧ (¬ (hI h (hR h (hR h a0 3) (0 : Int32).toNatClampNeg) 5) < x1 → ((x2 < 0 → Q (-100001) h) ∧ (¬ x2 < 0 → vp_in 1 (hs h (hR h a0 3)).2 ∧ hR h (hR h a0 3) (1 : Int32).toNatClampNeg ≠ 0 ∧ (hs h (hR h (hR h a0 3) (1 : Int32).toNatClampNeg)).1 = 20 ∧ ((x2 ≤ (hI h (hR h (hR h a0 3) (1 : Int32).toNatClampNeg) 5) → AC w mX9_layAnew 0 0 (rV fun h1 => (hs h1 a0).1 = 29 ∧ hR h1 a0 7 ≠ 0 ∧ (hs h1 (hR h1 a0 7)).1 = 27 ∧ AC w mX7_leastFrom 0 0 (rI fun r2 h2 => ((r2 < 1000000000 → Q r2 h2) ∧ (¬ r2 < 1000000000 → Q (-100003) h2))) [.ref (hR h1 a0 7), .int x1, .int x2] h1) [.ref a0] h) ∧ (¬ x2 ≤ (hI h (hR h (hR h a0 3) (1 : Int32).toNatClampNeg) 5) → Q (-100001) h))))))))) : AW w mX9_rest 0 0 (rI Q) 0 0 0 [some (.ref a0), some (.int x1), some (.int x2), none] [] h := by
  refine aw_iload_n 1 dX9_rest_0 rfl rfl ?_
  refine aw_if_lt 34 4 dX9_rest_1 rfl (by decide) (fun c1 => ?_) (fun c1 => ?_)
  · replace H := H.1 c1
    refine aw_ldc 36 dX9_rest_34 rfl kc_X9_123 ?_
    exact aw_ireturn dX9_rest_36 rfl (by decide) (by decide) ⟨_, rfl, H⟩
  · replace H := H.2 c1
    refine aw_iload_n 5 dX9_rest_4 rfl rfl ?_
    refine aw_aload_n 6 dX9_rest_5 rfl rfl ?_
    obtain ⟨g2, H⟩ := H
    obtain ⟨g3, H⟩ := H
    refine aw_getR 9 dX9_rest_6 rfl fl_X9_37 ir_9_3 g2 rfl g3 ?_
    refine aw_iconst (v := 0) 10 dX9_rest_9 rfl (by decide) ?_
    obtain ⟨g4, H⟩ := H
    obtain ⟨g5, H⟩ := H
    obtain ⟨g6, H⟩ := H
    refine aw_aald 11 dX9_rest_10 rfl (shp g4) (by decide) g5 rfl g6 ?_
    obtain ⟨g7, H⟩ := H
    refine aw_getI 14 dX9_rest_11 rfl fl_X9_138 (by decide) g7 ?_
    refine aw_icmp_gt 34 17 dX9_rest_14 rfl (by decide) (fun c8 => ?_) (fun c8 => ?_)
    · replace H := H.1 c8
      refine aw_ldc 36 dX9_rest_34 rfl kc_X9_123 ?_
      exact aw_ireturn dX9_rest_36 rfl (by decide) (by decide) ⟨_, rfl, H⟩
    · replace H := H.2 c8
      refine aw_iload_n 18 dX9_rest_17 rfl rfl ?_
      refine aw_if_lt 34 21 dX9_rest_18 rfl (by decide) (fun c9 => ?_) (fun c9 => ?_)
      · replace H := H.1 c9
        refine aw_ldc 36 dX9_rest_34 rfl kc_X9_123 ?_
        exact aw_ireturn dX9_rest_36 rfl (by decide) (by decide) ⟨_, rfl, H⟩
      · replace H := H.2 c9
        refine aw_iload_n 22 dX9_rest_21 rfl rfl ?_
        refine aw_aload_n 23 dX9_rest_22 rfl rfl ?_
        refine aw_getR 26 dX9_rest_23 rfl fl_X9_37 ir_9_3 g2 rfl g3 ?_
        refine aw_iconst (v := 1) 27 dX9_rest_26 rfl (by decide) ?_
        obtain ⟨g10, H⟩ := H
        obtain ⟨g11, H⟩ := H
        refine aw_aald 28 dX9_rest_27 rfl (shp g4) (by decide) g10 rfl g11 ?_
        obtain ⟨g12, H⟩ := H
        refine aw_getI 31 dX9_rest_28 rfl fl_X9_138 (by decide) g12 ?_
        refine aw_icmp_le 37 34 dX9_rest_31 rfl (by decide) (fun c13 => ?_) (fun c13 => ?_)
        · replace H := H.1 c13
          refine aw_aload_n 38 dX9_rest_37 rfl rfl ?_
          refine aw_callV (stk := []) (ci := 9) [] 41 dX9_rest_38 rfl mv_X9_188 ⟨by decide, by decide⟩ g2 (by intro r hr; cases hr; rfl) rfl rfl (by simp [Value.category]) (by decide) H ?_
          rintro _ h1 ⟨rfl, H⟩
          refine aw_aload_n 42 dX9_rest_41 rfl rfl ?_
          obtain ⟨g14, H⟩ := H
          obtain ⟨g15, H⟩ := H
          refine aw_getR 45 dX9_rest_42 rfl fl_X9_64 ir_9_7 g14 rfl g15 ?_
          refine aw_iload_n 46 dX9_rest_45 rfl rfl ?_
          refine aw_iload_n 47 dX9_rest_46 rfl rfl ?_
          obtain ⟨g16, H⟩ := H
          refine aw_callV (stk := []) (ci := 7) [.int x1, .int x2] 50 dX9_rest_47 rfl mv_X9_225 ⟨by decide, by decide⟩ g16 (by intro r hr; cases hr; rfl) rfl rfl (by simp [Value.category]) (by decide) H ?_
          rintro _ h2 ⟨r2, rfl, H⟩
          refine aw_istore_n (loc' := [some (.ref a0), some (.int x1), some (.int x2), some (.int r2)]) 51 dX9_rest_50 rfl (by decide) rfl ?_
          refine aw_iload_n 52 dX9_rest_51 rfl rfl ?_
          refine aw_ldc 54 dX9_rest_52 rfl kc_X9_228 ?_
          refine aw_icmp_lt 62 57 dX9_rest_54 rfl (by decide) (fun c17 => ?_) (fun c17 => ?_)
          · replace H := H.1 c17
            refine aw_iload_n 63 dX9_rest_62 rfl rfl ?_
            exact aw_ireturn dX9_rest_63 rfl (by decide) (by decide) ⟨_, rfl, H⟩
          · replace H := H.2 c17
            refine aw_ldc 59 dX9_rest_57 rfl kc_X9_104 ?_
            refine aw_goto 63 dX9_rest_59 (by decide) ?_
            exact aw_ireturn dX9_rest_63 rfl (by decide) (by decide) ⟨_, rfl, H⟩
        · replace H := H.2 c13
          refine aw_ldc 36 dX9_rest_34 rfl kc_X9_123 ?_
          exact aw_ireturn dX9_rest_36 rfl (by decide) (by decide) ⟨_, rfl, H⟩
theorem eX9_rest {w : Wd} {Q : Int32 → Hp → Prop} {h : Hp} {a0 : Nat} {x1 : Int32} {x2 : Int32} (H : AW w mX9_rest 0 0 (rI Q) 0 0 0 [some (.ref a0), some (.int x1), some (.int x2), none] [] h) : AC w mX9_rest 0 0 (rI Q) [.ref a0, .int x1, .int x2] h := AC.ofL (by decide) (by simp [enl, Value.category]) (by simp [leL, enl, Value.category]) H
set_option maxHeartbeats 4000000 in
set_option maxRecDepth 100000 in
theorem sX9_second_0 {w : Wd} {Q : Int32 → Hp → Prop} {h : Hp} {a0 : Nat} (H : (hs h a0).1 = 29 ∧ AC w mX9_layAnew 0 0 (rV fun h1 => (hs h1 a0).1 = 29 ∧ hR h1 a0 7 ≠ 0 ∧ (hs h1 (hR h1 a0 7)).1 = 27 ∧ AC w mX7_leastButBest 0 0 (rI fun r2 h2 => ((r2 < 1000000000 → Q r2 h2) ∧ (¬ r2 < 1000000000 → Q (-100003) h2))) [.ref (hR h1 a0 7)] h1) [.ref a0] h) : AW w mX9_second 0 0 (rI Q) 0 0 0 [some (.ref a0), none] [] h := by
  refine aw_aload_n 1 dX9_second_0 rfl rfl ?_
  obtain ⟨g1, H⟩ := H
  refine aw_callV (stk := []) (ci := 9) [] 4 dX9_second_1 rfl mv_X9_188 ⟨by decide, by decide⟩ g1 (by intro r hr; cases hr; rfl) rfl rfl (by simp [Value.category]) (by decide) H ?_
  rintro _ h1 ⟨rfl, H⟩
  refine aw_aload_n 5 dX9_second_4 rfl rfl ?_
  obtain ⟨g2, H⟩ := H
  obtain ⟨g3, H⟩ := H
  refine aw_getR 8 dX9_second_5 rfl fl_X9_64 ir_9_7 g2 rfl g3 ?_
  obtain ⟨g4, H⟩ := H
  refine aw_callV (stk := []) (ci := 7) [] 11 dX9_second_8 rfl mv_X9_229 ⟨by decide, by decide⟩ g4 (by intro r hr; cases hr; rfl) rfl rfl (by simp [Value.category]) (by decide) H ?_
  rintro _ h2 ⟨r2, rfl, H⟩
  refine aw_istore_n (loc' := [some (.ref a0), some (.int r2)]) 12 dX9_second_11 rfl (by decide) rfl ?_
  refine aw_iload_n 13 dX9_second_12 rfl rfl ?_
  refine aw_ldc 15 dX9_second_13 rfl kc_X9_228 ?_
  refine aw_icmp_lt 23 18 dX9_second_15 rfl (by decide) (fun c5 => ?_) (fun c5 => ?_)
  · replace H := H.1 c5
    refine aw_iload_n 24 dX9_second_23 rfl rfl ?_
    exact aw_ireturn dX9_second_24 rfl (by decide) (by decide) ⟨_, rfl, H⟩
  · replace H := H.2 c5
    refine aw_ldc 20 dX9_second_18 rfl kc_X9_104 ?_
    refine aw_goto 24 dX9_second_20 (by decide) ?_
    exact aw_ireturn dX9_second_24 rfl (by decide) (by decide) ⟨_, rfl, H⟩
theorem eX9_second {w : Wd} {Q : Int32 → Hp → Prop} {h : Hp} {a0 : Nat} (H : AW w mX9_second 0 0 (rI Q) 0 0 0 [some (.ref a0), none] [] h) : AC w mX9_second 0 0 (rI Q) [.ref a0] h := AC.ofL (by decide) (by simp [enl, Value.category]) (by simp [leL, enl, Value.category]) H
set_option maxHeartbeats 4000000 in
set_option maxRecDepth 100000 in
theorem sX9_sure_0 {w : Wd} {Q : Int32 → Hp → Prop} {h : Hp} {a0 : Nat} {x1 : Int32} {x2 : Int32} (H : (hs h a0).1 = 29 ∧ AC w mX9_layAnew 0 0 (rV fun h1 => (hs h1 a0).1 = 29 ∧ hR h1 a0 7 ≠ 0 ∧ (hs h1 (hR h1 a0 7)).1 = 27 ∧ AC w mX7_hasJoint 0 0 (rI fun r2 h2 => ((¬ r2 = 0 → ((x2 < 0 → Q (-100002) h2) ∧ (¬ x2 < 0 → ((x2 ≤ 10000 → (hs h2 a0).1 = 29 ∧ hR h2 a0 7 ≠ 0 ∧ (hs h2 (hR h2 a0 7)).1 = 27 ∧ AC w mX7_leastWithout 0 0 (rI fun r3 h3 => (hs h3 a0).1 = 29 ∧ hR h3 a0 7 ≠ 0 ∧ (hs h3 (hR h3 a0 7)).1 = 27 ∧ AC w mX7_leastFrom 0 0 (rI fun r4 h4 => ((r3 ≤ (r4 + x2) → Q 0 h4) ∧ (¬ r3 ≤ (r4 + x2) → Q 1 h4))) [.ref (hR h3 a0 7), .int 0, .int 0] h3) [.ref (hR h2 a0 7), .int x1] h2) ∧ (¬ x2 ≤ 10000 → Q (-100002) h2))))) ∧ (r2 = 0 → Q (-100001) h2))) [.ref (hR h1 a0 7), .int x1] h1) [.ref a0] h) : AW w mX9_sure 0 0 (rI Q) 0 0 0 [some (.ref a0), some (.int x1), some (.int x2)] [] h := by
  refine aw_aload_n 1 dX9_sure_0 rfl rfl ?_
  obtain ⟨g1, H⟩ := H
  refine aw_callV (stk := []) (ci := 9) [] 4 dX9_sure_1 rfl mv_X9_188 ⟨by decide, by decide⟩ g1 (by intro r hr; cases hr; rfl) rfl rfl (by simp [Value.category]) (by decide) H ?_
  rintro _ h1 ⟨rfl, H⟩
  refine aw_aload_n 5 dX9_sure_4 rfl rfl ?_
  obtain ⟨g2, H⟩ := H
  obtain ⟨g3, H⟩ := H
  refine aw_getR 8 dX9_sure_5 rfl fl_X9_64 ir_9_7 g2 rfl g3 ?_
  refine aw_iload_n 9 dX9_sure_8 rfl rfl ?_
  obtain ⟨g4, H⟩ := H
  refine aw_callV (stk := []) (ci := 7) [.int x1] 12 dX9_sure_9 rfl mv_X9_197 ⟨by decide, by decide⟩ g4 (by intro r hr; cases hr; rfl) rfl rfl (by simp [Value.category]) (by decide) H ?_
  rintro _ h2 ⟨r2, rfl, H⟩
  refine aw_if_ne 18 15 dX9_sure_12 rfl (by decide) (fun c5 => ?_) (fun c5 => ?_)
  · replace H := H.1 c5
    refine aw_iload_n 19 dX9_sure_18 rfl rfl ?_
    refine aw_if_lt 29 22 dX9_sure_19 rfl (by decide) (fun c6 => ?_) (fun c6 => ?_)
    · replace H := H.1 c6
      refine aw_ldc 31 dX9_sure_29 rfl kc_X9_99 ?_
      exact aw_ireturn dX9_sure_31 rfl (by decide) (by decide) ⟨_, rfl, H⟩
    · replace H := H.2 c6
      refine aw_iload_n 23 dX9_sure_22 rfl rfl ?_
      refine aw_sipush (v := 10000) 26 dX9_sure_23 rfl (by decide) ?_
      refine aw_icmp_le 32 29 dX9_sure_26 rfl (by decide) (fun c7 => ?_) (fun c7 => ?_)
      · replace H := H.1 c7
        refine aw_aload_n 33 dX9_sure_32 rfl rfl ?_
        obtain ⟨g8, H⟩ := H
        obtain ⟨g9, H⟩ := H
        refine aw_getR 36 dX9_sure_33 rfl fl_X9_64 ir_9_7 g8 rfl g9 ?_
        refine aw_iload_n 37 dX9_sure_36 rfl rfl ?_
        obtain ⟨g10, H⟩ := H
        refine aw_callV (stk := []) (ci := 7) [.int x1] 40 dX9_sure_37 rfl mv_X9_232 ⟨by decide, by decide⟩ g10 (by intro r hr; cases hr; rfl) rfl rfl (by simp [Value.category]) (by decide) H ?_
        rintro _ h3 ⟨r3, rfl, H⟩
        refine aw_aload_n 41 dX9_sure_40 rfl rfl ?_
        obtain ⟨g11, H⟩ := H
        obtain ⟨g12, H⟩ := H
        refine aw_getR 44 dX9_sure_41 rfl fl_X9_64 ir_9_7 g11 rfl g12 ?_
        refine aw_iconst (v := 0) 45 dX9_sure_44 rfl (by decide) ?_
        refine aw_iconst (v := 0) 46 dX9_sure_45 rfl (by decide) ?_
        obtain ⟨g13, H⟩ := H
        refine aw_callV (stk := [.int r3]) (ci := 7) [.int 0, .int 0] 49 dX9_sure_46 rfl mv_X9_225 ⟨by decide, by decide⟩ g13 (by intro r hr; cases hr; rfl) rfl rfl (by simp [Value.category]) (by decide) H ?_
        rintro _ h4 ⟨r4, rfl, H⟩
        refine aw_iload_n 50 dX9_sure_49 rfl rfl ?_
        refine aw_iadd 51 dX9_sure_50 rfl ?_
        refine aw_icmp_le 58 54 dX9_sure_51 rfl (by decide) (fun c14 => ?_) (fun c14 => ?_)
        · replace H := H.1 c14
          refine aw_iconst (v := 0) 59 dX9_sure_58 rfl (by decide) ?_
          exact aw_ireturn dX9_sure_59 rfl (by decide) (by decide) ⟨_, rfl, H⟩
        · replace H := H.2 c14
          refine aw_iconst (v := 1) 55 dX9_sure_54 rfl (by decide) ?_
          refine aw_goto 59 dX9_sure_55 (by decide) ?_
          exact aw_ireturn dX9_sure_59 rfl (by decide) (by decide) ⟨_, rfl, H⟩
      · replace H := H.2 c7
        refine aw_ldc 31 dX9_sure_29 rfl kc_X9_99 ?_
        exact aw_ireturn dX9_sure_31 rfl (by decide) (by decide) ⟨_, rfl, H⟩
  · replace H := H.2 c5
    refine aw_ldc 17 dX9_sure_15 rfl kc_X9_123 ?_
    exact aw_ireturn dX9_sure_17 rfl (by decide) (by decide) ⟨_, rfl, H⟩
theorem eX9_sure {w : Wd} {Q : Int32 → Hp → Prop} {h : Hp} {a0 : Nat} {x1 : Int32} {x2 : Int32} (H : AW w mX9_sure 0 0 (rI Q) 0 0 0 [some (.ref a0), some (.int x1), some (.int x2)] [] h) : AC w mX9_sure 0 0 (rI Q) [.ref a0, .int x1, .int x2] h := AC.ofL (by decide) (by simp [enl, Value.category]) (by simp [leL, enl, Value.category]) H
set_option maxHeartbeats 4000000 in
set_option maxRecDepth 100000 in
theorem sX9_rounds_0 {w : Wd} {Q : Int32 → Hp → Prop} {h : Hp} {a0 : Nat} {x1 : Int32} (H : ((x1 < 0 → Q (-100002) h) ∧ (¬ x1 < 0 → ((x1 ≤ 10 → (hs h a0).1 = 29 ∧ AC w mX9_layAnew 0 0 (rV fun h1 => (hs h1 a0).1 = 29 ∧ hR h1 a0 7 ≠ 0 ∧ (hs h1 (hR h1 a0 7)).1 = 27 ∧ ((¬ (hI h1 (hR h1 a0 7) 11) = 0 → AW w mX9_rounds 0 0 (rI Q) 0 0 31 [some (.ref a0), some (.int x1), some (.int 0)] [] h1) ∧ ((hI h1 (hR h1 a0 7) 11) = 0 → Q 0 h1))) [.ref a0] h) ∧ (¬ x1 ≤ 10 → Q (-100002) h))))) : AW w mX9_rounds 0 0 (rI Q) 0 0 0 [some (.ref a0), some (.int x1), none] [] h := by
  refine aw_iload_n 1 dX9_rounds_0 rfl rfl ?_
  refine aw_if_lt 10 4 dX9_rounds_1 rfl (by decide) (fun c1 => ?_) (fun c1 => ?_)
  · replace H := H.1 c1
    refine aw_ldc 12 dX9_rounds_10 rfl kc_X9_99 ?_
    exact aw_ireturn dX9_rounds_12 rfl (by decide) (by decide) ⟨_, rfl, H⟩
  · replace H := H.2 c1
    refine aw_iload_n 5 dX9_rounds_4 rfl rfl ?_
    refine aw_bipush (v := 10) 7 dX9_rounds_5 rfl (by decide) ?_
    refine aw_icmp_le 13 10 dX9_rounds_7 rfl (by decide) (fun c2 => ?_) (fun c2 => ?_)
    · replace H := H.1 c2
      refine aw_aload_n 14 dX9_rounds_13 rfl rfl ?_
      obtain ⟨g3, H⟩ := H
      refine aw_callV (stk := []) (ci := 9) [] 17 dX9_rounds_14 rfl mv_X9_188 ⟨by decide, by decide⟩ g3 (by intro r hr; cases hr; rfl) rfl rfl (by simp [Value.category]) (by decide) H ?_
      rintro _ h1 ⟨rfl, H⟩
      refine aw_aload_n 18 dX9_rounds_17 rfl rfl ?_
      obtain ⟨g4, H⟩ := H
      obtain ⟨g5, H⟩ := H
      refine aw_getR 21 dX9_rounds_18 rfl fl_X9_64 ir_9_7 g4 rfl g5 ?_
      obtain ⟨g6, H⟩ := H
      refine aw_getI 24 dX9_rounds_21 rfl fl_X9_191 (by decide) g6 ?_
      refine aw_if_ne 29 27 dX9_rounds_24 rfl (by decide) (fun c7 => ?_) (fun c7 => ?_)
      · replace H := H.1 c7
        refine aw_iconst (v := 0) 30 dX9_rounds_29 rfl (by decide) ?_
        refine aw_istore_n (loc' := [some (.ref a0), some (.int x1), some (.int 0)]) 31 dX9_rounds_30 rfl (by decide) rfl ?_
        exact H
      · replace H := H.2 c7
        refine aw_iconst (v := 0) 28 dX9_rounds_27 rfl (by decide) ?_
        exact aw_ireturn dX9_rounds_28 rfl (by decide) (by decide) ⟨_, rfl, H⟩
    · replace H := H.2 c2
      refine aw_ldc 12 dX9_rounds_10 rfl kc_X9_99 ?_
      exact aw_ireturn dX9_rounds_12 rfl (by decide) (by decide) ⟨_, rfl, H⟩
theorem eX9_rounds {w : Wd} {Q : Int32 → Hp → Prop} {h : Hp} {a0 : Nat} {x1 : Int32} (H : AW w mX9_rounds 0 0 (rI Q) 0 0 0 [some (.ref a0), some (.int x1), none] [] h) : AC w mX9_rounds 0 0 (rI Q) [.ref a0, .int x1] h := AC.ofL (by decide) (by simp [enl, Value.category]) (by simp [leL, enl, Value.category]) H
set_option maxHeartbeats 4000000 in
set_option maxRecDepth 100000 in
theorem sX9_rounds_31 {w : Wd} {Q : Int32 → Hp → Prop} {h : Hp} {a0 : Nat} {x1 : Int32} {x2 : Int32} (H : ((x1 ≤ x2 → Q x1 h) ∧ (¬ x1 ≤ x2 → (hs h a0).1 = 29 ∧ AC w mX9_layAnew 0 0 (rV fun h1 => (hs h1 a0).1 = 29 ∧ AC w mX9_playRound 0 0 (rV fun h2 => AW w mX9_rounds 0 0 (rI Q) 0 0 31 [some (.ref a0), some (.int x1), some (.int (x2 + 1))] [] h2) [.ref a0] h1) [.ref a0] h))) : AW w mX9_rounds 0 0 (rI Q) 0 0 31 [some (.ref a0), some (.int x1), some (.int x2)] [] h := by
  refine aw_iload_n 32 dX9_rounds_31 rfl rfl ?_
  refine aw_iload_n 33 dX9_rounds_32 rfl rfl ?_
  refine aw_icmp_ge 50 36 dX9_rounds_33 rfl (by decide) (fun c1 => ?_) (fun c1 => ?_)
  · replace H := H.1 c1
    refine aw_iload_n 51 dX9_rounds_50 rfl rfl ?_
    exact aw_ireturn dX9_rounds_51 rfl (by decide) (by decide) ⟨_, rfl, H⟩
  · replace H := H.2 c1
    refine aw_aload_n 37 dX9_rounds_36 rfl rfl ?_
    obtain ⟨g2, H⟩ := H
    refine aw_callV (stk := []) (ci := 9) [] 40 dX9_rounds_37 rfl mv_X9_188 ⟨by decide, by decide⟩ g2 (by intro r hr; cases hr; rfl) rfl rfl (by simp [Value.category]) (by decide) H ?_
    rintro _ h1 ⟨rfl, H⟩
    refine aw_aload_n 41 dX9_rounds_40 rfl rfl ?_
    obtain ⟨g3, H⟩ := H
    refine aw_callV (stk := []) (ci := 9) [] 44 dX9_rounds_41 rfl mv_X9_236 ⟨by decide, by decide⟩ g3 (by intro r hr; cases hr; rfl) rfl rfl (by simp [Value.category]) (by decide) H ?_
    rintro _ h2 ⟨rfl, H⟩
    refine aw_iinc (y := 1) (loc' := [some (.ref a0), some (.int x1), some (.int (x2 + 1))]) 47 dX9_rounds_44 rfl (by decide) rfl (by decide) rfl ?_
    refine aw_goto 31 dX9_rounds_47 (by decide) ?_
    exact H
set_option maxHeartbeats 4000000 in
set_option maxRecDepth 100000 in
theorem sX9_share_0 {w : Wd} {Q : Int32 → Hp → Prop} {h : Hp} {a0 : Nat} {x1 : Int32} {x2 : Int32} (H : (hs h a0).1 = 29 ∧ AC w mX9_isKind 0 0 (rI fun r1 h1 => ((r1 = 0 → Q (-100001) h1) ∧ (¬ r1 = 0 → ((x2 = (-1) → AW w mX9_share 0 0 (rI Q) 0 0 26 [some (.ref a0), some (.int x1), some (.int x2)] [] h1) ∧ (¬ x2 = (-1) → (hs h1 a0).1 = 29 ∧ AC w mX9_isKind 0 0 (rI fun r2 h2 => ((¬ r2 = 0 → AW w mX9_share 0 0 (rI Q) 0 0 26 [some (.ref a0), some (.int x1), some (.int x2)] [] h2) ∧ (r2 = 0 → Q (-100001) h2))) [.ref a0, .int 1, .int x2] h1))))) [.ref a0, .int 0, .int x1] h) : AW w mX9_share 0 0 (rI Q) 0 0 0 [some (.ref a0), some (.int x1), some (.int x2)] [] h := by
  refine aw_aload_n 1 dX9_share_0 rfl rfl ?_
  refine aw_iconst (v := 0) 2 dX9_share_1 rfl (by decide) ?_
  refine aw_iload_n 3 dX9_share_2 rfl rfl ?_
  obtain ⟨g1, H⟩ := H
  refine aw_callV (stk := []) (ci := 9) [.int 0, .int x1] 6 dX9_share_3 rfl mv_X9_170 ⟨by decide, by decide⟩ g1 (by intro r hr; cases hr; rfl) rfl rfl (by simp [Value.category]) (by decide) H ?_
  rintro _ h1 ⟨r1, rfl, H⟩
  refine aw_if_eq 23 9 dX9_share_6 rfl (by decide) (fun c2 => ?_) (fun c2 => ?_)
  · replace H := H.1 c2
    refine aw_ldc 25 dX9_share_23 rfl kc_X9_123 ?_
    exact aw_ireturn dX9_share_25 rfl (by decide) (by decide) ⟨_, rfl, H⟩
  · replace H := H.2 c2
    refine aw_iload_n 10 dX9_share_9 rfl rfl ?_
    refine aw_iconst (v := (-1)) 11 dX9_share_10 rfl (by decide) ?_
    refine aw_icmp_eq 26 14 dX9_share_11 rfl (by decide) (fun c3 => ?_) (fun c3 => ?_)
    · replace H := H.1 c3
      exact H
    · replace H := H.2 c3
      refine aw_aload_n 15 dX9_share_14 rfl rfl ?_
      refine aw_iconst (v := 1) 16 dX9_share_15 rfl (by decide) ?_
      refine aw_iload_n 17 dX9_share_16 rfl rfl ?_
      obtain ⟨g4, H⟩ := H
      refine aw_callV (stk := []) (ci := 9) [.int 1, .int x2] 20 dX9_share_17 rfl mv_X9_170 ⟨by decide, by decide⟩ g4 (by intro r hr; cases hr; rfl) rfl rfl (by simp [Value.category]) (by decide) H ?_
      rintro _ h2 ⟨r2, rfl, H⟩
      refine aw_if_ne 26 23 dX9_share_20 rfl (by decide) (fun c5 => ?_) (fun c5 => ?_)
      · replace H := H.1 c5
        exact H
      · replace H := H.2 c5
        refine aw_ldc 25 dX9_share_23 rfl kc_X9_123 ?_
        exact aw_ireturn dX9_share_25 rfl (by decide) (by decide) ⟨_, rfl, H⟩
theorem eX9_share {w : Wd} {Q : Int32 → Hp → Prop} {h : Hp} {a0 : Nat} {x1 : Int32} {x2 : Int32} (H : AW w mX9_share 0 0 (rI Q) 0 0 0 [some (.ref a0), some (.int x1), some (.int x2)] [] h) : AC w mX9_share 0 0 (rI Q) [.ref a0, .int x1, .int x2] h := AC.ofL (by decide) (by simp [enl, Value.category]) (by simp [leL, enl, Value.category]) H
set_option maxHeartbeats 4000000 in
set_option maxRecDepth 100000 in
theorem sX9_share_26 {w : Wd} {Q : Int32 → Hp → Prop} {h : Hp} {a0 : Nat} {x1 : Int32} {x2 : Int32} (H : (hs h a0).1 = 29 ∧ hR h a0 6 ≠ 0 ∧ (hs h (hR h a0 6)).1 = 24 ∧ hR h (hR h a0 6) 0 ≠ 0 ∧ (hs h (hR h (hR h a0 6) 0)).1 = 6 ∧ vp_in x1 (hs h (hR h (hR h a0 6) 0)).2 ∧ hR h (hR h (hR h a0 6) 0) x1.toNatClampNeg ≠ 0 ∧ ((¬ x2 = (-1) → (hs h (hR h (hR h (hR h a0 6) 0) x1.toNatClampNeg)).1 = 1 ∧ vp_in x2 (hs h (hR h (hR h (hR h a0 6) 0) x1.toNatClampNeg)).2 ∧ Q (hI h (hR h (hR h (hR h a0 6) 0) x1.toNatClampNeg) x2.toNatClampNeg) h) ∧ (x2 = (-1) → (hs h (hR h (hR h (hR h a0 6) 0) x1.toNatClampNeg)).1 = 1 ∧ vp_in 40 (hs h (hR h (hR h (hR h a0 6) 0) x1.toNatClampNeg)).2 ∧ Q (hI h (hR h (hR h (hR h a0 6) 0) x1.toNatClampNeg) (40 : Int32).toNatClampNeg) h))) : AW w mX9_share 0 0 (rI Q) 0 0 26 [some (.ref a0), some (.int x1), some (.int x2)] [] h := by
  refine aw_aload_n 27 dX9_share_26 rfl rfl ?_
  obtain ⟨g1, H⟩ := H
  obtain ⟨g2, H⟩ := H
  refine aw_getR 30 dX9_share_27 rfl fl_X9_55 ir_9_6 g1 rfl g2 ?_
  obtain ⟨g3, H⟩ := H
  obtain ⟨g4, H⟩ := H
  refine aw_getR 33 dX9_share_30 rfl fl_X9_239 ir_4_0 g3 rfl g4 ?_
  refine aw_iload_n 34 dX9_share_33 rfl rfl ?_
  obtain ⟨g5, H⟩ := H
  obtain ⟨g6, H⟩ := H
  obtain ⟨g7, H⟩ := H
  refine aw_aald 35 dX9_share_34 rfl (shp g5) (by decide) g6 rfl g7 ?_
  refine aw_iload_n 36 dX9_share_35 rfl rfl ?_
  refine aw_iconst (v := (-1)) 37 dX9_share_36 rfl (by decide) ?_
  refine aw_icmp_ne 45 40 dX9_share_37 rfl (by decide) (fun c8 => ?_) (fun c8 => ?_)
  · replace H := H.1 c8
    refine aw_iload_n 46 dX9_share_45 rfl rfl ?_
    obtain ⟨g9, H⟩ := H
    obtain ⟨g10, H⟩ := H
    refine aw_iald 47 dX9_share_46 rfl (Or.inl (shp g9)) g10 ?_
    exact aw_ireturn dX9_share_47 rfl (by decide) (by decide) ⟨_, rfl, H⟩
  · replace H := H.2 c8
    refine aw_bipush (v := 40) 42 dX9_share_40 rfl (by decide) ?_
    refine aw_goto 46 dX9_share_42 (by decide) ?_
    obtain ⟨g11, H⟩ := H
    obtain ⟨g12, H⟩ := H
    refine aw_iald 47 dX9_share_46 rfl (Or.inl (shp g11)) g12 ?_
    exact aw_ireturn dX9_share_47 rfl (by decide) (by decide) ⟨_, rfl, H⟩
set_option maxHeartbeats 4000000 in
set_option maxRecDepth 100000 in
theorem sX9_partner_0 {w : Wd} {Q : Int32 → Hp → Prop} {h : Hp} {a0 : Nat} {x1 : Int32} {x2 : Int32} (H : (hs h a0).1 = 29 ∧ AC w mX9_isKind 0 0 (rI fun r1 h1 => ((¬ r1 = 0 → (((x2.toInt < 0 ∨ 2 < x2.toInt) → Q (-100002) h1) ∧ (x2.toInt = 0 → (hs h1 a0).1 = 29 ∧ hR h1 a0 6 ≠ 0 ∧ (hs h1 (hR h1 a0 6)).1 = 24 ∧ AC w mX4_partnerOf 0 0 (rI fun r2 h2 => Q r2 h2) [.ref (hR h1 a0 6), .int x1] h1) ∧ (x2.toInt = 1 → (hs h1 a0).1 = 29 ∧ hR h1 a0 6 ≠ 0 ∧ (hs h1 (hR h1 a0 6)).1 = 24 ∧ AC w mX4_lossOf 0 0 (rI fun r3 h3 => Q r3 h3) [.ref (hR h1 a0 6), .int x1] h1) ∧ (x2.toInt = 2 → (hs h1 a0).1 = 29 ∧ hR h1 a0 6 ≠ 0 ∧ (hs h1 (hR h1 a0 6)).1 = 24 ∧ hR h1 (hR h1 a0 6) 2 ≠ 0 ∧ (hs h1 (hR h1 (hR h1 a0 6) 2)).1 = 1 ∧ vp_in x1 (hs h1 (hR h1 (hR h1 a0 6) 2)).2 ∧ Q (hI h1 (hR h1 (hR h1 a0 6) 2) x1.toNatClampNeg) h1))) ∧ (r1 = 0 → Q (-100001) h1))) [.ref a0, .int 0, .int x1] h) : AW w mX9_partner 0 0 (rI Q) 0 0 0 [some (.ref a0), some (.int x1), some (.int x2)] [] h := by
  refine aw_aload_n 1 dX9_partner_0 rfl rfl ?_
  refine aw_iconst (v := 0) 2 dX9_partner_1 rfl (by decide) ?_
  refine aw_iload_n 3 dX9_partner_2 rfl rfl ?_
  obtain ⟨g1, H⟩ := H
  refine aw_callV (stk := []) (ci := 9) [.int 0, .int x1] 6 dX9_partner_3 rfl mv_X9_170 ⟨by decide, by decide⟩ g1 (by intro r hr; cases hr; rfl) rfl rfl (by simp [Value.category]) (by decide) H ?_
  rintro _ h1 ⟨r1, rfl, H⟩
  refine aw_if_ne 12 9 dX9_partner_6 rfl (by decide) (fun c2 => ?_) (fun c2 => ?_)
  · replace H := H.1 c2
    refine aw_iload_n 13 dX9_partner_12 rfl rfl ?_
    by_cases c3 : (x2.toInt < 0 ∨ 2 < x2.toInt)
    · refine aw_tableOut 68 dX9_partner_13 c3 (by decide) ?_
      replace H := H.1 c3
      refine aw_ldc 70 dX9_partner_68 rfl kc_X9_99 ?_
      exact aw_ireturn dX9_partner_70 rfl (by decide) (by decide) ⟨_, rfl, H⟩
    · replace H := H.2
      have c3a : ¬ x2.toInt < 0 := fun z => c3 (Or.inl z)
      have c3b : ¬ 2 < x2.toInt := fun z => c3 (Or.inr z)
      rcases (show x2.toInt = 0 ∨ x2.toInt = 1 ∨ x2.toInt = 2 by omega) with c3e | c3e | c3e
      · refine aw_tableIn 40 dX9_partner_13 c3a c3b (by rw [c3e]; rfl) (by decide) ?_
        replace H := H.1 c3e
        refine aw_aload_n 41 dX9_partner_40 rfl rfl ?_
        obtain ⟨g4, H⟩ := H
        obtain ⟨g5, H⟩ := H
        refine aw_getR 44 dX9_partner_41 rfl fl_X9_55 ir_9_6 g4 rfl g5 ?_
        refine aw_iload_n 45 dX9_partner_44 rfl rfl ?_
        obtain ⟨g6, H⟩ := H
        refine aw_callV (stk := []) (ci := 4) [.int x1] 48 dX9_partner_45 rfl mv_X9_242 ⟨by decide, by decide⟩ g6 (by intro r hr; cases hr; rfl) rfl rfl (by simp [Value.category]) (by decide) H ?_
        rintro _ h2 ⟨r2, rfl, H⟩
        exact aw_ireturn dX9_partner_48 rfl (by decide) (by decide) ⟨_, rfl, H⟩
      · refine aw_tableIn 49 dX9_partner_13 c3a c3b (by rw [c3e]; rfl) (by decide) ?_
        replace H := H.2.1 c3e
        refine aw_aload_n 50 dX9_partner_49 rfl rfl ?_
        obtain ⟨g7, H⟩ := H
        obtain ⟨g8, H⟩ := H
        refine aw_getR 53 dX9_partner_50 rfl fl_X9_55 ir_9_6 g7 rfl g8 ?_
        refine aw_iload_n 54 dX9_partner_53 rfl rfl ?_
        obtain ⟨g9, H⟩ := H
        refine aw_callV (stk := []) (ci := 4) [.int x1] 57 dX9_partner_54 rfl mv_X9_245 ⟨by decide, by decide⟩ g9 (by intro r hr; cases hr; rfl) rfl rfl (by simp [Value.category]) (by decide) H ?_
        rintro _ h3 ⟨r3, rfl, H⟩
        exact aw_ireturn dX9_partner_57 rfl (by decide) (by decide) ⟨_, rfl, H⟩
      · refine aw_tableIn 58 dX9_partner_13 c3a c3b (by rw [c3e]; rfl) (by decide) ?_
        replace H := H.2.2 c3e
        refine aw_aload_n 59 dX9_partner_58 rfl rfl ?_
        obtain ⟨g10, H⟩ := H
        obtain ⟨g11, H⟩ := H
        refine aw_getR 62 dX9_partner_59 rfl fl_X9_55 ir_9_6 g10 rfl g11 ?_
        obtain ⟨g12, H⟩ := H
        obtain ⟨g13, H⟩ := H
        refine aw_getR 65 dX9_partner_62 rfl fl_X9_248 ir_4_2 g12 rfl g13 ?_
        refine aw_iload_n 66 dX9_partner_65 rfl rfl ?_
        obtain ⟨g14, H⟩ := H
        obtain ⟨g15, H⟩ := H
        refine aw_iald 67 dX9_partner_66 rfl (Or.inl (shp g14)) g15 ?_
        exact aw_ireturn dX9_partner_67 rfl (by decide) (by decide) ⟨_, rfl, H⟩
  · replace H := H.2 c2
    refine aw_ldc 11 dX9_partner_9 rfl kc_X9_123 ?_
    exact aw_ireturn dX9_partner_11 rfl (by decide) (by decide) ⟨_, rfl, H⟩
theorem eX9_partner {w : Wd} {Q : Int32 → Hp → Prop} {h : Hp} {a0 : Nat} {x1 : Int32} {x2 : Int32} (H : AW w mX9_partner 0 0 (rI Q) 0 0 0 [some (.ref a0), some (.int x1), some (.int x2)] [] h) : AC w mX9_partner 0 0 (rI Q) [.ref a0, .int x1, .int x2] h := AC.ofL (by decide) (by simp [enl, Value.category]) (by simp [leL, enl, Value.category]) H
set_option maxHeartbeats 4000000 in
set_option maxRecDepth 100000 in
theorem sX9_term_0 {w : Wd} {Q : Int32 → Hp → Prop} {h : Hp} {a0 : Nat} {x1 : Int32} {x2 : Int32} (H : (hs h a0).1 = 29 ∧ AC w mX9_isKind 0 0 (rI fun r1 h1 => ((r1 = 0 → Q (-100001) h1) ∧ (¬ r1 = 0 → (hs h1 a0).1 = 29 ∧ AC w mX9_isKind 0 0 (rI fun r2 h2 => ((¬ r2 = 0 → (hs h2 a0).1 = 29 ∧ hR h2 a0 6 ≠ 0 ∧ (hs h2 (hR h2 a0 6)).1 = 24 ∧ hR h2 (hR h2 a0 6) 2 ≠ 0 ∧ (hs h2 (hR h2 (hR h2 a0 6) 2)).1 = 1 ∧ vp_in x1 (hs h2 (hR h2 (hR h2 a0 6) 2)).2 ∧ (((hI h2 (hR h2 (hR h2 a0 6) 2) x1.toNatClampNeg) = (-1) → ∀ h3, h3 = sI h2 (hR h2 (hR h2 a0 6) 2) x1.toNatClampNeg x2 → AC w mX4_obeyTerm 0 0 (rV fun h4 => (hs h4 a0).1 = 29 ∧ ∀ h5, h5 = sI h4 a0 11 1 → Q 1 h5) [.ref (hR h2 a0 6), .int x1] h3) ∧ (¬ (hI h2 (hR h2 (hR h2 a0 6) 2) x1.toNatClampNeg) = (-1) → ∀ h6, h6 = sI h2 (hR h2 (hR h2 a0 6) 2) x1.toNatClampNeg (-1) → Q 0 h6))) ∧ (r2 = 0 → Q (-100001) h2))) [.ref a0, .int 1, .int x2] h1))) [.ref a0, .int 0, .int x1] h) : AW w mX9_term 0 0 (rI Q) 0 0 0 [some (.ref a0), some (.int x1), some (.int x2)] [] h := by
  refine aw_aload_n 1 dX9_term_0 rfl rfl ?_
  refine aw_iconst (v := 0) 2 dX9_term_1 rfl (by decide) ?_
  refine aw_iload_n 3 dX9_term_2 rfl rfl ?_
  obtain ⟨g1, H⟩ := H
  refine aw_callV (stk := []) (ci := 9) [.int 0, .int x1] 6 dX9_term_3 rfl mv_X9_170 ⟨by decide, by decide⟩ g1 (by intro r hr; cases hr; rfl) rfl rfl (by simp [Value.category]) (by decide) H ?_
  rintro _ h1 ⟨r1, rfl, H⟩
  refine aw_if_eq 18 9 dX9_term_6 rfl (by decide) (fun c2 => ?_) (fun c2 => ?_)
  · replace H := H.1 c2
    refine aw_ldc 20 dX9_term_18 rfl kc_X9_123 ?_
    exact aw_ireturn dX9_term_20 rfl (by decide) (by decide) ⟨_, rfl, H⟩
  · replace H := H.2 c2
    refine aw_aload_n 10 dX9_term_9 rfl rfl ?_
    refine aw_iconst (v := 1) 11 dX9_term_10 rfl (by decide) ?_
    refine aw_iload_n 12 dX9_term_11 rfl rfl ?_
    obtain ⟨g3, H⟩ := H
    refine aw_callV (stk := []) (ci := 9) [.int 1, .int x2] 15 dX9_term_12 rfl mv_X9_170 ⟨by decide, by decide⟩ g3 (by intro r hr; cases hr; rfl) rfl rfl (by simp [Value.category]) (by decide) H ?_
    rintro _ h2 ⟨r2, rfl, H⟩
    refine aw_if_ne 21 18 dX9_term_15 rfl (by decide) (fun c4 => ?_) (fun c4 => ?_)
    · replace H := H.1 c4
      refine aw_aload_n 22 dX9_term_21 rfl rfl ?_
      obtain ⟨g5, H⟩ := H
      obtain ⟨g6, H⟩ := H
      refine aw_getR 25 dX9_term_22 rfl fl_X9_55 ir_9_6 g5 rfl g6 ?_
      obtain ⟨g7, H⟩ := H
      obtain ⟨g8, H⟩ := H
      refine aw_getR 28 dX9_term_25 rfl fl_X9_248 ir_4_2 g7 rfl g8 ?_
      refine aw_iload_n 29 dX9_term_28 rfl rfl ?_
      obtain ⟨g9, H⟩ := H
      obtain ⟨g10, H⟩ := H
      refine aw_iald 30 dX9_term_29 rfl (Or.inl (shp g9)) g10 ?_
      refine aw_iconst (v := (-1)) 31 dX9_term_30 rfl (by decide) ?_
      refine aw_icmp_eq 46 34 dX9_term_31 rfl (by decide) (fun c11 => ?_) (fun c11 => ?_)
      · replace H := H.1 c11
        refine aw_aload_n 47 dX9_term_46 rfl rfl ?_
        refine aw_getR 50 dX9_term_47 rfl fl_X9_55 ir_9_6 g5 rfl g6 ?_
        refine aw_getR 53 dX9_term_50 rfl fl_X9_248 ir_4_2 g7 rfl g8 ?_
        refine aw_iload_n 54 dX9_term_53 rfl rfl ?_
        refine aw_iload_n 55 dX9_term_54 rfl rfl ?_
        refine aw_iast 56 dX9_term_55 rfl (shp g9) g10 ?_
        replace H := H _ rfl
        refine aw_aload_n 57 dX9_term_56 rfl rfl ?_
        refine aw_getR 60 dX9_term_57 rfl fl_X9_55 ir_9_6 g5 rfl g6 ?_
        refine aw_iload_n 61 dX9_term_60 rfl rfl ?_
        refine aw_callV (stk := []) (ci := 4) [.int x1] 64 dX9_term_61 rfl mv_X9_251 ⟨by decide, by decide⟩ g7 (by intro r hr; cases hr; rfl) rfl rfl (by simp [Value.category]) (by decide) H ?_
        rintro _ h4 ⟨rfl, H⟩
        refine aw_aload_n 65 dX9_term_64 rfl rfl ?_
        refine aw_iconst (v := 1) 66 dX9_term_65 rfl (by decide) ?_
        obtain ⟨g12, H⟩ := H
        refine aw_putZ 69 dX9_term_66 rfl fl_X9_87 (by decide) (by decide) g12 nf_9_11 ?_
        replace H := H _ rfl
        refine aw_iconst (v := 1) 70 dX9_term_69 rfl (by decide) ?_
        exact aw_ireturn dX9_term_70 rfl (by decide) (by decide) ⟨_, rfl, H⟩
      · replace H := H.2 c11
        refine aw_aload_n 35 dX9_term_34 rfl rfl ?_
        refine aw_getR 38 dX9_term_35 rfl fl_X9_55 ir_9_6 g5 rfl g6 ?_
        refine aw_getR 41 dX9_term_38 rfl fl_X9_248 ir_4_2 g7 rfl g8 ?_
        refine aw_iload_n 42 dX9_term_41 rfl rfl ?_
        refine aw_iconst (v := (-1)) 43 dX9_term_42 rfl (by decide) ?_
        refine aw_iast 44 dX9_term_43 rfl (shp g9) g10 ?_
        replace H := H _ rfl
        refine aw_iconst (v := 0) 45 dX9_term_44 rfl (by decide) ?_
        exact aw_ireturn dX9_term_45 rfl (by decide) (by decide) ⟨_, rfl, H⟩
    · replace H := H.2 c4
      refine aw_ldc 20 dX9_term_18 rfl kc_X9_123 ?_
      exact aw_ireturn dX9_term_20 rfl (by decide) (by decide) ⟨_, rfl, H⟩
theorem eX9_term {w : Wd} {Q : Int32 → Hp → Prop} {h : Hp} {a0 : Nat} {x1 : Int32} {x2 : Int32} (H : AW w mX9_term 0 0 (rI Q) 0 0 0 [some (.ref a0), some (.int x1), some (.int x2)] [] h) : AC w mX9_term 0 0 (rI Q) [.ref a0, .int x1, .int x2] h := AC.ofL (by decide) (by simp [enl, Value.category]) (by simp [leL, enl, Value.category]) H
set_option maxHeartbeats 4000000 in
set_option maxRecDepth 100000 in
theorem sX9_broken_0 {w : Wd} {Q : Int32 → Hp → Prop} {h : Hp} {a0 : Nat} (H : (hs h a0).1 = 29 ∧ AC w mX9_layAnew 0 0 (rV fun h1 => AW w mX9_broken 0 0 (rI Q) 0 0 8 [some (.ref a0), some (.int 0), some (.int 0)] [] h1) [.ref a0] h) : AW w mX9_broken 0 0 (rI Q) 0 0 0 [some (.ref a0), none, none] [] h := by
  refine aw_aload_n 1 dX9_broken_0 rfl rfl ?_
  obtain ⟨g1, H⟩ := H
  refine aw_callV (stk := []) (ci := 9) [] 4 dX9_broken_1 rfl mv_X9_188 ⟨by decide, by decide⟩ g1 (by intro r hr; cases hr; rfl) rfl rfl (by simp [Value.category]) (by decide) H ?_
  rintro _ h1 ⟨rfl, H⟩
  refine aw_iconst (v := 0) 5 dX9_broken_4 rfl (by decide) ?_
  refine aw_istore_n (loc' := [some (.ref a0), some (.int 0), none]) 6 dX9_broken_5 rfl (by decide) rfl ?_
  refine aw_iconst (v := 0) 7 dX9_broken_6 rfl (by decide) ?_
  refine aw_istore_n (loc' := [some (.ref a0), some (.int 0), some (.int 0)]) 8 dX9_broken_7 rfl (by decide) rfl ?_
  exact H
theorem eX9_broken {w : Wd} {Q : Int32 → Hp → Prop} {h : Hp} {a0 : Nat} (H : AW w mX9_broken 0 0 (rI Q) 0 0 0 [some (.ref a0), none, none] [] h) : AC w mX9_broken 0 0 (rI Q) [.ref a0] h := AC.ofL (by decide) (by simp [enl, Value.category]) (by simp [leL, enl, Value.category]) H
set_option maxHeartbeats 4000000 in
set_option maxRecDepth 100000 in
theorem sX9_broken_8 {w : Wd} {Q : Int32 → Hp → Prop} {h : Hp} {a0 : Nat} {x1 : Int32} {x2 : Int32} (H : (hs h a0).1 = 29 ∧ hR h a0 7 ≠ 0 ∧ (hs h (hR h a0 7)).1 = 27 ∧ (((hI h (hR h a0 7) 12) ≤ x2 → Q x1 h) ∧ (¬ (hI h (hR h a0 7) 12) ≤ x2 → AC w mX9_breaksTerm 0 0 (rI fun r1 h1 => ((r1 = 0 → AW w mX9_broken 0 0 (rI Q) 0 0 8 [some (.ref a0), some (.int x1), some (.int (x2 + 1))] [] h1) ∧ (¬ r1 = 0 → AW w mX9_broken 0 0 (rI Q) 0 0 8 [some (.ref a0), some (.int (x1 + 1)), some (.int (x2 + 1))] [] h1))) [.ref a0, .int x2] h))) : AW w mX9_broken 0 0 (rI Q) 0 0 8 [some (.ref a0), some (.int x1), some (.int x2)] [] h := by
  refine aw_iload_n 9 dX9_broken_8 rfl rfl ?_
  refine aw_aload_n 10 dX9_broken_9 rfl rfl ?_
  obtain ⟨g1, H⟩ := H
  obtain ⟨g2, H⟩ := H
  refine aw_getR 13 dX9_broken_10 rfl fl_X9_64 ir_9_7 g1 rfl g2 ?_
  obtain ⟨g3, H⟩ := H
  refine aw_getI 16 dX9_broken_13 rfl fl_X9_194 (by decide) g3 ?_
  refine aw_icmp_ge 36 19 dX9_broken_16 rfl (by decide) (fun c4 => ?_) (fun c4 => ?_)
  · replace H := H.1 c4
    refine aw_iload_n 37 dX9_broken_36 rfl rfl ?_
    exact aw_ireturn dX9_broken_37 rfl (by decide) (by decide) ⟨_, rfl, H⟩
  · replace H := H.2 c4
    refine aw_aload_n 20 dX9_broken_19 rfl rfl ?_
    refine aw_iload_n 21 dX9_broken_20 rfl rfl ?_
    refine aw_callV (stk := []) (ci := 9) [.int x2] 24 dX9_broken_21 rfl mv_X9_254 ⟨by decide, by decide⟩ g1 (by intro r hr; cases hr; rfl) rfl rfl (by simp [Value.category]) (by decide) H ?_
    rintro _ h1 ⟨r1, rfl, H⟩
    refine aw_if_eq 30 27 dX9_broken_24 rfl (by decide) (fun c5 => ?_) (fun c5 => ?_)
    · replace H := H.1 c5
      refine aw_iinc (y := 1) (loc' := [some (.ref a0), some (.int x1), some (.int (x2 + 1))]) 33 dX9_broken_30 rfl (by decide) rfl (by decide) rfl ?_
      refine aw_goto 8 dX9_broken_33 (by decide) ?_
      exact H
    · replace H := H.2 c5
      refine aw_iinc (y := 1) (loc' := [some (.ref a0), some (.int (x1 + 1)), some (.int x2)]) 30 dX9_broken_27 rfl (by decide) rfl (by decide) rfl ?_
      refine aw_iinc (y := 1) (loc' := [some (.ref a0), some (.int (x1 + 1)), some (.int (x2 + 1))]) 33 dX9_broken_30 rfl (by decide) rfl (by decide) rfl ?_
      refine aw_goto 8 dX9_broken_33 (by decide) ?_
      exact H
set_option maxHeartbeats 4000000 in
set_option maxRecDepth 100000 in
theorem sX9_link_0 {w : Wd} {Q : Int32 → Hp → Prop} {h : Hp} {a0 : Nat} {x1 : Int32} {x2 : Int32} {x3 : Int32} (H : (hs h a0).1 = 29 ∧ AC w mX9_layAnew 0 0 (rV fun h1 => (hs h1 a0).1 = 29 ∧ hR h1 a0 7 ≠ 0 ∧ (hs h1 (hR h1 a0 7)).1 = 27 ∧ AC w mX7_hasJoint 0 0 (rI fun r2 h2 => ((¬ r2 = 0 → ((x2 = 0 → AW w mX9_link 0 0 (rI Q) 0 0 30 [some (.ref a0), some (.int x1), some (.int x2), some (.int x3), none] [] h2) ∧ (¬ x2 = 0 → ((x2 = 1 → AW w mX9_link 0 0 (rI Q) 0 0 30 [some (.ref a0), some (.int x1), some (.int x2), some (.int x3), none] [] h2) ∧ (¬ x2 = 1 → Q (-100002) h2))))) ∧ (r2 = 0 → Q (-100001) h2))) [.ref (hR h1 a0 7), .int x1] h1) [.ref a0] h) : AW w mX9_link 0 0 (rI Q) 0 0 0 [some (.ref a0), some (.int x1), some (.int x2), some (.int x3), none] [] h := by
  refine aw_aload_n 1 dX9_link_0 rfl rfl ?_
  obtain ⟨g1, H⟩ := H
  refine aw_callV (stk := []) (ci := 9) [] 4 dX9_link_1 rfl mv_X9_188 ⟨by decide, by decide⟩ g1 (by intro r hr; cases hr; rfl) rfl rfl (by simp [Value.category]) (by decide) H ?_
  rintro _ h1 ⟨rfl, H⟩
  refine aw_aload_n 5 dX9_link_4 rfl rfl ?_
  obtain ⟨g2, H⟩ := H
  obtain ⟨g3, H⟩ := H
  refine aw_getR 8 dX9_link_5 rfl fl_X9_64 ir_9_7 g2 rfl g3 ?_
  refine aw_iload_n 9 dX9_link_8 rfl rfl ?_
  obtain ⟨g4, H⟩ := H
  refine aw_callV (stk := []) (ci := 7) [.int x1] 12 dX9_link_9 rfl mv_X9_197 ⟨by decide, by decide⟩ g4 (by intro r hr; cases hr; rfl) rfl rfl (by simp [Value.category]) (by decide) H ?_
  rintro _ h2 ⟨r2, rfl, H⟩
  refine aw_if_ne 18 15 dX9_link_12 rfl (by decide) (fun c5 => ?_) (fun c5 => ?_)
  · replace H := H.1 c5
    refine aw_iload_n 19 dX9_link_18 rfl rfl ?_
    refine aw_if_eq 30 22 dX9_link_19 rfl (by decide) (fun c6 => ?_) (fun c6 => ?_)
    · replace H := H.1 c6
      exact H
    · replace H := H.2 c6
      refine aw_iload_n 23 dX9_link_22 rfl rfl ?_
      refine aw_iconst (v := 1) 24 dX9_link_23 rfl (by decide) ?_
      refine aw_icmp_eq 30 27 dX9_link_24 rfl (by decide) (fun c7 => ?_) (fun c7 => ?_)
      · replace H := H.1 c7
        exact H
      · replace H := H.2 c7
        refine aw_ldc 29 dX9_link_27 rfl kc_X9_99 ?_
        exact aw_ireturn dX9_link_29 rfl (by decide) (by decide) ⟨_, rfl, H⟩
  · replace H := H.2 c5
    refine aw_ldc 17 dX9_link_15 rfl kc_X9_123 ?_
    exact aw_ireturn dX9_link_17 rfl (by decide) (by decide) ⟨_, rfl, H⟩
theorem eX9_link {w : Wd} {Q : Int32 → Hp → Prop} {h : Hp} {a0 : Nat} {x1 : Int32} {x2 : Int32} {x3 : Int32} (H : AW w mX9_link 0 0 (rI Q) 0 0 0 [some (.ref a0), some (.int x1), some (.int x2), some (.int x3), none] [] h) : AC w mX9_link 0 0 (rI Q) [.ref a0, .int x1, .int x2, .int x3] h := AC.ofL (by decide) (by simp [enl, Value.category]) (by simp [leL, enl, Value.category]) H
set_option maxHeartbeats 4000000 in
set_option maxRecDepth 100000 in
theorem sX9_link_30 {w : Wd} {Q : Int32 → Hp → Prop} {h : Hp} {a0 : Nat} {x1 : Int32} {x2 : Int32} {x3 : Int32} (H : (hs h a0).1 = 29 ∧ hR h a0 8 ≠ 0 ∧ (hs h (hR h a0 8)).1 = 22 ∧ AC w mX2_gather 0 0 (rV fun h1 => ((¬ x2 = 0 → (hs h1 a0).1 = 29 ∧ hR h1 a0 8 ≠ 0 ∧ (hs h1 (hR h1 a0 8)).1 = 22 ∧ AC w mX2_hasRight 0 0 (rI fun r2 h2 => AW w mX9_link 0 0 (rI Q) 0 0 61 [some (.ref a0), some (.int x1), some (.int x2), some (.int x3), none] [.int r2] h2) [.ref (hR h1 a0 8), .int x3] h1) ∧ (x2 = 0 → (hs h1 a0).1 = 29 ∧ hR h1 a0 8 ≠ 0 ∧ (hs h1 (hR h1 a0 8)).1 = 22 ∧ AC w mX2_hasLeft 0 0 (rI fun r3 h3 => AW w mX9_link 0 0 (rI Q) 0 0 61 [some (.ref a0), some (.int x1), some (.int x2), some (.int x3), none] [.int r3] h3) [.ref (hR h1 a0 8), .int x3] h1))) [.ref (hR h a0 8), .int x1] h) : AW w mX9_link 0 0 (rI Q) 0 0 30 [some (.ref a0), some (.int x1), some (.int x2), some (.int x3), none] [] h := by
  refine aw_aload_n 31 dX9_link_30 rfl rfl ?_
  obtain ⟨g1, H⟩ := H
  obtain ⟨g2, H⟩ := H
  refine aw_getR 34 dX9_link_31 rfl fl_X9_73 ir_9_8 g1 rfl g2 ?_
  refine aw_iload_n 35 dX9_link_34 rfl rfl ?_
  obtain ⟨g3, H⟩ := H
  refine aw_callV (stk := []) (ci := 2) [.int x1] 38 dX9_link_35 rfl mv_X9_257 ⟨by decide, by decide⟩ g3 (by intro r hr; cases hr; rfl) rfl rfl (by simp [Value.category]) (by decide) H ?_
  rintro _ h1 ⟨rfl, H⟩
  refine aw_iload_n 39 dX9_link_38 rfl rfl ?_
  refine aw_if_ne 53 42 dX9_link_39 rfl (by decide) (fun c4 => ?_) (fun c4 => ?_)
  · replace H := H.1 c4
    refine aw_aload_n 54 dX9_link_53 rfl rfl ?_
    obtain ⟨g5, H⟩ := H
    obtain ⟨g6, H⟩ := H
    refine aw_getR 57 dX9_link_54 rfl fl_X9_73 ir_9_8 g5 rfl g6 ?_
    refine aw_iload_n 58 dX9_link_57 rfl rfl ?_
    obtain ⟨g7, H⟩ := H
    refine aw_callV (stk := []) (ci := 2) [.int x3] 61 dX9_link_58 rfl mv_X9_263 ⟨by decide, by decide⟩ g7 (by intro r hr; cases hr; rfl) rfl rfl (by simp [Value.category]) (by decide) H ?_
    rintro _ h2 ⟨r2, rfl, H⟩
    exact H
  · replace H := H.2 c4
    refine aw_aload_n 43 dX9_link_42 rfl rfl ?_
    obtain ⟨g8, H⟩ := H
    obtain ⟨g9, H⟩ := H
    refine aw_getR 46 dX9_link_43 rfl fl_X9_73 ir_9_8 g8 rfl g9 ?_
    refine aw_iload_n 47 dX9_link_46 rfl rfl ?_
    obtain ⟨g10, H⟩ := H
    refine aw_callV (stk := []) (ci := 2) [.int x3] 50 dX9_link_47 rfl mv_X9_260 ⟨by decide, by decide⟩ g10 (by intro r hr; cases hr; rfl) rfl rfl (by simp [Value.category]) (by decide) H ?_
    rintro _ h3 ⟨r3, rfl, H⟩
    refine aw_goto 61 dX9_link_50 (by decide) ?_
    exact H
set_option maxHeartbeats 4000000 in
set_option maxRecDepth 100000 in
theorem sX9_link_61 {w : Wd} {Q : Int32 → Hp → Prop} {h : Hp} {a0 : Nat} {x1 : Int32} {x2 : Int32} {x3 : Int32} {y0 : Int32} (H : ((¬ y0 = 0 → (hs h a0).1 = 29 ∧ AC w mX9_isLinkable 0 0 (rI fun r1 h1 => ((¬ r1 = 0 → (hs h1 a0).1 = 29 ∧ hR h1 a0 8 ≠ 0 ∧ (hs h1 (hR h1 a0 8)).1 = 22 ∧ AC w mX2_work 0 0 (rV fun h2 => ((¬ x2 = 0 → (hs h2 a0).1 = 29 ∧ hR h2 a0 8 ≠ 0 ∧ (hs h2 (hR h2 a0 8)).1 = 22 ∧ hR h2 (hR h2 a0 8) 8 ≠ 0 ∧ (hs h2 (hR h2 (hR h2 a0 8) 8)).1 = 1 ∧ vp_in x3 (hs h2 (hR h2 (hR h2 a0 8) 8)).2 ∧ Q (hI h2 (hR h2 (hR h2 a0 8) 8) x3.toNatClampNeg) h2) ∧ (x2 = 0 → (hs h2 a0).1 = 29 ∧ hR h2 a0 8 ≠ 0 ∧ (hs h2 (hR h2 a0 8)).1 = 22 ∧ hR h2 (hR h2 a0 8) 7 ≠ 0 ∧ (hs h2 (hR h2 (hR h2 a0 8) 7)).1 = 1 ∧ vp_in x3 (hs h2 (hR h2 (hR h2 a0 8) 7)).2 ∧ Q (hI h2 (hR h2 (hR h2 a0 8) 7) x3.toNatClampNeg) h2))) [.ref (hR h1 a0 8)] h1) ∧ (r1 = 0 → Q (-100003) h1))) [.ref a0, .int x1] h) ∧ (y0 = 0 → Q (-100001) h))) : AW w mX9_link 0 0 (rI Q) 0 0 61 [some (.ref a0), some (.int x1), some (.int x2), some (.int x3), none] [.int y0] h := by
  refine aw_istore (loc' := [some (.ref a0), some (.int x1), some (.int x2), some (.int x3), some (.int y0)]) 63 dX9_link_61 rfl (by decide) rfl ?_
  refine aw_iload 65 dX9_link_63 rfl rfl ?_
  refine aw_if_ne 71 68 dX9_link_65 rfl (by decide) (fun c1 => ?_) (fun c1 => ?_)
  · replace H := H.1 c1
    refine aw_aload_n 72 dX9_link_71 rfl rfl ?_
    refine aw_iload_n 73 dX9_link_72 rfl rfl ?_
    obtain ⟨g2, H⟩ := H
    refine aw_callV (stk := []) (ci := 9) [.int x1] 76 dX9_link_73 rfl mv_X9_266 ⟨by decide, by decide⟩ g2 (by intro r hr; cases hr; rfl) rfl rfl (by simp [Value.category]) (by decide) H ?_
    rintro _ h1 ⟨r1, rfl, H⟩
    refine aw_if_ne 82 79 dX9_link_76 rfl (by decide) (fun c3 => ?_) (fun c3 => ?_)
    · replace H := H.1 c3
      refine aw_aload_n 83 dX9_link_82 rfl rfl ?_
      obtain ⟨g4, H⟩ := H
      obtain ⟨g5, H⟩ := H
      refine aw_getR 86 dX9_link_83 rfl fl_X9_73 ir_9_8 g4 rfl g5 ?_
      obtain ⟨g6, H⟩ := H
      refine aw_callV (stk := []) (ci := 2) [] 89 dX9_link_86 rfl mv_X9_269 ⟨by decide, by decide⟩ g6 (by intro r hr; cases hr; rfl) rfl rfl (by simp [Value.category]) (by decide) H ?_
      rintro _ h2 ⟨rfl, H⟩
      refine aw_iload_n 90 dX9_link_89 rfl rfl ?_
      refine aw_if_ne 105 93 dX9_link_90 rfl (by decide) (fun c7 => ?_) (fun c7 => ?_)
      · replace H := H.1 c7
        refine aw_aload_n 106 dX9_link_105 rfl rfl ?_
        obtain ⟨g8, H⟩ := H
        obtain ⟨g9, H⟩ := H
        refine aw_getR 109 dX9_link_106 rfl fl_X9_73 ir_9_8 g8 rfl g9 ?_
        obtain ⟨g10, H⟩ := H
        obtain ⟨g11, H⟩ := H
        refine aw_getR 112 dX9_link_109 rfl fl_X9_275 ir_2_8 g10 rfl g11 ?_
        refine aw_iload_n 113 dX9_link_112 rfl rfl ?_
        obtain ⟨g12, H⟩ := H
        obtain ⟨g13, H⟩ := H
        refine aw_iald 114 dX9_link_113 rfl (Or.inl (shp g12)) g13 ?_
        exact aw_ireturn dX9_link_114 rfl (by decide) (by decide) ⟨_, rfl, H⟩
      · replace H := H.2 c7
        refine aw_aload_n 94 dX9_link_93 rfl rfl ?_
        obtain ⟨g14, H⟩ := H
        obtain ⟨g15, H⟩ := H
        refine aw_getR 97 dX9_link_94 rfl fl_X9_73 ir_9_8 g14 rfl g15 ?_
        obtain ⟨g16, H⟩ := H
        obtain ⟨g17, H⟩ := H
        refine aw_getR 100 dX9_link_97 rfl fl_X9_272 ir_2_7 g16 rfl g17 ?_
        refine aw_iload_n 101 dX9_link_100 rfl rfl ?_
        obtain ⟨g18, H⟩ := H
        obtain ⟨g19, H⟩ := H
        refine aw_iald 102 dX9_link_101 rfl (Or.inl (shp g18)) g19 ?_
        refine aw_goto 114 dX9_link_102 (by decide) ?_
        exact aw_ireturn dX9_link_114 rfl (by decide) (by decide) ⟨_, rfl, H⟩
    · replace H := H.2 c3
      refine aw_ldc 81 dX9_link_79 rfl kc_X9_104 ?_
      exact aw_ireturn dX9_link_81 rfl (by decide) (by decide) ⟨_, rfl, H⟩
  · replace H := H.2 c1
    refine aw_ldc 70 dX9_link_68 rfl kc_X9_123 ?_
    exact aw_ireturn dX9_link_70 rfl (by decide) (by decide) ⟨_, rfl, H⟩
set_option maxHeartbeats 4000000 in
set_option maxRecDepth 100000 in
theorem sX9_linked_0 {w : Wd} {Q : Int32 → Hp → Prop} {h : Hp} {a0 : Nat} {x1 : Int32} {x2 : Int32} {x3 : Int32} {x4 : Int32} (H : (hs h a0).1 = 29 ∧ AC w mX9_layAnew 0 0 (rV fun h1 => (hs h1 a0).1 = 29 ∧ hR h1 a0 7 ≠ 0 ∧ (hs h1 (hR h1 a0 7)).1 = 27 ∧ AC w mX7_hasJoint 0 0 (rI fun r2 h2 => ((¬ r2 = 0 → (hs h2 a0).1 = 29 ∧ hR h2 a0 8 ≠ 0 ∧ (hs h2 (hR h2 a0 8)).1 = 22 ∧ AC w mX2_gather 0 0 (rV fun h3 => (hs h3 a0).1 = 29 ∧ hR h3 a0 8 ≠ 0 ∧ (hs h3 (hR h3 a0 8)).1 = 22 ∧ AC w mX2_hasLeft 0 0 (rI fun r4 h4 => ((r4 = 0 → Q (-100001) h4) ∧ (¬ r4 = 0 → (hs h4 a0).1 = 29 ∧ hR h4 a0 8 ≠ 0 ∧ (hs h4 (hR h4 a0 8)).1 = 22 ∧ AC w mX2_hasRight 0 0 (rI fun r5 h5 => ((¬ r5 = 0 → ((x2 = 0 → AW w mX9_linked 0 0 (rI Q) 0 0 64 [some (.ref a0), some (.int x1), some (.int x2), some (.int x3), some (.int x4), none] [] h5) ∧ (¬ x2 = 0 → ((x2 = 1 → AW w mX9_linked 0 0 (rI Q) 0 0 64 [some (.ref a0), some (.int x1), some (.int x2), some (.int x3), some (.int x4), none] [] h5) ∧ (¬ x2 = 1 → Q (-100002) h5))))) ∧ (r5 = 0 → Q (-100001) h5))) [.ref (hR h4 a0 8), .int x4] h4))) [.ref (hR h3 a0 8), .int x3] h3) [.ref (hR h2 a0 8), .int x1] h2) ∧ (r2 = 0 → Q (-100001) h2))) [.ref (hR h1 a0 7), .int x1] h1) [.ref a0] h) : AW w mX9_linked 0 0 (rI Q) 0 0 0 [some (.ref a0), some (.int x1), some (.int x2), some (.int x3), some (.int x4), none] [] h := by
  refine aw_aload_n 1 dX9_linked_0 rfl rfl ?_
  obtain ⟨g1, H⟩ := H
  refine aw_callV (stk := []) (ci := 9) [] 4 dX9_linked_1 rfl mv_X9_188 ⟨by decide, by decide⟩ g1 (by intro r hr; cases hr; rfl) rfl rfl (by simp [Value.category]) (by decide) H ?_
  rintro _ h1 ⟨rfl, H⟩
  refine aw_aload_n 5 dX9_linked_4 rfl rfl ?_
  obtain ⟨g2, H⟩ := H
  obtain ⟨g3, H⟩ := H
  refine aw_getR 8 dX9_linked_5 rfl fl_X9_64 ir_9_7 g2 rfl g3 ?_
  refine aw_iload_n 9 dX9_linked_8 rfl rfl ?_
  obtain ⟨g4, H⟩ := H
  refine aw_callV (stk := []) (ci := 7) [.int x1] 12 dX9_linked_9 rfl mv_X9_197 ⟨by decide, by decide⟩ g4 (by intro r hr; cases hr; rfl) rfl rfl (by simp [Value.category]) (by decide) H ?_
  rintro _ h2 ⟨r2, rfl, H⟩
  refine aw_if_ne 18 15 dX9_linked_12 rfl (by decide) (fun c5 => ?_) (fun c5 => ?_)
  · replace H := H.1 c5
    refine aw_aload_n 19 dX9_linked_18 rfl rfl ?_
    obtain ⟨g6, H⟩ := H
    obtain ⟨g7, H⟩ := H
    refine aw_getR 22 dX9_linked_19 rfl fl_X9_73 ir_9_8 g6 rfl g7 ?_
    refine aw_iload_n 23 dX9_linked_22 rfl rfl ?_
    obtain ⟨g8, H⟩ := H
    refine aw_callV (stk := []) (ci := 2) [.int x1] 26 dX9_linked_23 rfl mv_X9_257 ⟨by decide, by decide⟩ g8 (by intro r hr; cases hr; rfl) rfl rfl (by simp [Value.category]) (by decide) H ?_
    rintro _ h3 ⟨rfl, H⟩
    refine aw_aload_n 27 dX9_linked_26 rfl rfl ?_
    obtain ⟨g9, H⟩ := H
    obtain ⟨g10, H⟩ := H
    refine aw_getR 30 dX9_linked_27 rfl fl_X9_73 ir_9_8 g9 rfl g10 ?_
    refine aw_iload_n 31 dX9_linked_30 rfl rfl ?_
    obtain ⟨g11, H⟩ := H
    refine aw_callV (stk := []) (ci := 2) [.int x3] 34 dX9_linked_31 rfl mv_X9_260 ⟨by decide, by decide⟩ g11 (by intro r hr; cases hr; rfl) rfl rfl (by simp [Value.category]) (by decide) H ?_
    rintro _ h4 ⟨r4, rfl, H⟩
    refine aw_if_eq 49 37 dX9_linked_34 rfl (by decide) (fun c12 => ?_) (fun c12 => ?_)
    · replace H := H.1 c12
      refine aw_ldc 51 dX9_linked_49 rfl kc_X9_123 ?_
      exact aw_ireturn dX9_linked_51 rfl (by decide) (by decide) ⟨_, rfl, H⟩
    · replace H := H.2 c12
      refine aw_aload_n 38 dX9_linked_37 rfl rfl ?_
      obtain ⟨g13, H⟩ := H
      obtain ⟨g14, H⟩ := H
      refine aw_getR 41 dX9_linked_38 rfl fl_X9_73 ir_9_8 g13 rfl g14 ?_
      refine aw_iload 43 dX9_linked_41 rfl rfl ?_
      obtain ⟨g15, H⟩ := H
      refine aw_callV (stk := []) (ci := 2) [.int x4] 46 dX9_linked_43 rfl mv_X9_263 ⟨by decide, by decide⟩ g15 (by intro r hr; cases hr; rfl) rfl rfl (by simp [Value.category]) (by decide) H ?_
      rintro _ h5 ⟨r5, rfl, H⟩
      refine aw_if_ne 52 49 dX9_linked_46 rfl (by decide) (fun c16 => ?_) (fun c16 => ?_)
      · replace H := H.1 c16
        refine aw_iload_n 53 dX9_linked_52 rfl rfl ?_
        refine aw_if_eq 64 56 dX9_linked_53 rfl (by decide) (fun c17 => ?_) (fun c17 => ?_)
        · replace H := H.1 c17
          exact H
        · replace H := H.2 c17
          refine aw_iload_n 57 dX9_linked_56 rfl rfl ?_
          refine aw_iconst (v := 1) 58 dX9_linked_57 rfl (by decide) ?_
          refine aw_icmp_eq 64 61 dX9_linked_58 rfl (by decide) (fun c18 => ?_) (fun c18 => ?_)
          · replace H := H.1 c18
            exact H
          · replace H := H.2 c18
            refine aw_ldc 63 dX9_linked_61 rfl kc_X9_99 ?_
            exact aw_ireturn dX9_linked_63 rfl (by decide) (by decide) ⟨_, rfl, H⟩
      · replace H := H.2 c16
        refine aw_ldc 51 dX9_linked_49 rfl kc_X9_123 ?_
        exact aw_ireturn dX9_linked_51 rfl (by decide) (by decide) ⟨_, rfl, H⟩
  · replace H := H.2 c5
    refine aw_ldc 17 dX9_linked_15 rfl kc_X9_123 ?_
    exact aw_ireturn dX9_linked_17 rfl (by decide) (by decide) ⟨_, rfl, H⟩
theorem eX9_linked {w : Wd} {Q : Int32 → Hp → Prop} {h : Hp} {a0 : Nat} {x1 : Int32} {x2 : Int32} {x3 : Int32} {x4 : Int32} (H : AW w mX9_linked 0 0 (rI Q) 0 0 0 [some (.ref a0), some (.int x1), some (.int x2), some (.int x3), some (.int x4), none] [] h) : AC w mX9_linked 0 0 (rI Q) [.ref a0, .int x1, .int x2, .int x3, .int x4] h := AC.ofL (by decide) (by simp [enl, Value.category]) (by simp [leL, enl, Value.category]) H
set_option maxHeartbeats 4000000 in
set_option maxRecDepth 100000 in
theorem sX9_linked_64 {w : Wd} {Q : Int32 → Hp → Prop} {h : Hp} {a0 : Nat} {x1 : Int32} {x2 : Int32} {x3 : Int32} {x4 : Int32} (H : (hs h a0).1 = 29 ∧ AC w mX9_isLinkable 0 0 (rI fun r1 h1 => ((¬ r1 = 0 → (hs h1 a0).1 = 29 ∧ hR h1 a0 8 ≠ 0 ∧ (hs h1 (hR h1 a0 8)).1 = 22 ∧ AC w mX2_work 0 0 (rV fun h2 => ((¬ x2 = 0 → (hs h2 a0).1 = 29 ∧ hR h2 a0 8 ≠ 0 ∧ (hs h2 (hR h2 a0 8)).1 = 22 ∧ AC w mX2_isGrown 0 0 (rI fun r3 h3 => ((r3 = 0 → Q 0 h3) ∧ (¬ r3 = 0 → Q 1 h3))) [.ref (hR h2 a0 8), .int x3, .int x4] h2) ∧ (x2 = 0 → (hs h2 a0).1 = 29 ∧ hR h2 a0 8 ≠ 0 ∧ (hs h2 (hR h2 a0 8)).1 = 22 ∧ AC w mX2_isBoth 0 0 (rI fun r4 h4 => ((r4 = 0 → Q 0 h4) ∧ (¬ r4 = 0 → Q 1 h4))) [.ref (hR h2 a0 8), .int x3, .int x4] h2))) [.ref (hR h1 a0 8)] h1) ∧ (r1 = 0 → Q (-100003) h1))) [.ref a0, .int x1] h) : AW w mX9_linked 0 0 (rI Q) 0 0 64 [some (.ref a0), some (.int x1), some (.int x2), some (.int x3), some (.int x4), none] [] h := by
  refine aw_aload_n 65 dX9_linked_64 rfl rfl ?_
  refine aw_iload_n 66 dX9_linked_65 rfl rfl ?_
  obtain ⟨g1, H⟩ := H
  refine aw_callV (stk := []) (ci := 9) [.int x1] 69 dX9_linked_66 rfl mv_X9_266 ⟨by decide, by decide⟩ g1 (by intro r hr; cases hr; rfl) rfl rfl (by simp [Value.category]) (by decide) H ?_
  rintro _ h1 ⟨r1, rfl, H⟩
  refine aw_if_ne 75 72 dX9_linked_69 rfl (by decide) (fun c2 => ?_) (fun c2 => ?_)
  · replace H := H.1 c2
    refine aw_aload_n 76 dX9_linked_75 rfl rfl ?_
    obtain ⟨g3, H⟩ := H
    obtain ⟨g4, H⟩ := H
    refine aw_getR 79 dX9_linked_76 rfl fl_X9_73 ir_9_8 g3 rfl g4 ?_
    obtain ⟨g5, H⟩ := H
    refine aw_callV (stk := []) (ci := 2) [] 82 dX9_linked_79 rfl mv_X9_269 ⟨by decide, by decide⟩ g5 (by intro r hr; cases hr; rfl) rfl rfl (by simp [Value.category]) (by decide) H ?_
    rintro _ h2 ⟨rfl, H⟩
    refine aw_iload_n 83 dX9_linked_82 rfl rfl ?_
    refine aw_if_ne 99 86 dX9_linked_83 rfl (by decide) (fun c6 => ?_) (fun c6 => ?_)
    · replace H := H.1 c6
      refine aw_aload_n 100 dX9_linked_99 rfl rfl ?_
      obtain ⟨g7, H⟩ := H
      obtain ⟨g8, H⟩ := H
      refine aw_getR 103 dX9_linked_100 rfl fl_X9_73 ir_9_8 g7 rfl g8 ?_
      refine aw_iload_n 104 dX9_linked_103 rfl rfl ?_
      refine aw_iload 106 dX9_linked_104 rfl rfl ?_
      obtain ⟨g9, H⟩ := H
      refine aw_callV (stk := []) (ci := 2) [.int x3, .int x4] 109 dX9_linked_106 rfl mv_X9_281 ⟨by decide, by decide⟩ g9 (by intro r hr; cases hr; rfl) rfl rfl (by simp [Value.category]) (by decide) H ?_
      rintro _ h3 ⟨r3, rfl, H⟩
      refine aw_istore (loc' := [some (.ref a0), some (.int x1), some (.int x2), some (.int x3), some (.int x4), some (.int r3)]) 111 dX9_linked_109 rfl (by decide) rfl ?_
      refine aw_iload 113 dX9_linked_111 rfl rfl ?_
      refine aw_if_eq 120 116 dX9_linked_113 rfl (by decide) (fun c10 => ?_) (fun c10 => ?_)
      · replace H := H.1 c10
        refine aw_iconst (v := 0) 121 dX9_linked_120 rfl (by decide) ?_
        exact aw_ireturn dX9_linked_121 rfl (by decide) (by decide) ⟨_, rfl, H⟩
      · replace H := H.2 c10
        refine aw_iconst (v := 1) 117 dX9_linked_116 rfl (by decide) ?_
        refine aw_goto 121 dX9_linked_117 (by decide) ?_
        exact aw_ireturn dX9_linked_121 rfl (by decide) (by decide) ⟨_, rfl, H⟩
    · replace H := H.2 c6
      refine aw_aload_n 87 dX9_linked_86 rfl rfl ?_
      obtain ⟨g11, H⟩ := H
      obtain ⟨g12, H⟩ := H
      refine aw_getR 90 dX9_linked_87 rfl fl_X9_73 ir_9_8 g11 rfl g12 ?_
      refine aw_iload_n 91 dX9_linked_90 rfl rfl ?_
      refine aw_iload 93 dX9_linked_91 rfl rfl ?_
      obtain ⟨g13, H⟩ := H
      refine aw_callV (stk := []) (ci := 2) [.int x3, .int x4] 96 dX9_linked_93 rfl mv_X9_278 ⟨by decide, by decide⟩ g13 (by intro r hr; cases hr; rfl) rfl rfl (by simp [Value.category]) (by decide) H ?_
      rintro _ h4 ⟨r4, rfl, H⟩
      refine aw_goto 109 dX9_linked_96 (by decide) ?_
      refine aw_istore (loc' := [some (.ref a0), some (.int x1), some (.int x2), some (.int x3), some (.int x4), some (.int r4)]) 111 dX9_linked_109 rfl (by decide) rfl ?_
      refine aw_iload 113 dX9_linked_111 rfl rfl ?_
      refine aw_if_eq 120 116 dX9_linked_113 rfl (by decide) (fun c14 => ?_) (fun c14 => ?_)
      · replace H := H.1 c14
        refine aw_iconst (v := 0) 121 dX9_linked_120 rfl (by decide) ?_
        exact aw_ireturn dX9_linked_121 rfl (by decide) (by decide) ⟨_, rfl, H⟩
      · replace H := H.2 c14
        refine aw_iconst (v := 1) 117 dX9_linked_116 rfl (by decide) ?_
        refine aw_goto 121 dX9_linked_117 (by decide) ?_
        exact aw_ireturn dX9_linked_121 rfl (by decide) (by decide) ⟨_, rfl, H⟩
  · replace H := H.2 c2
    refine aw_ldc 74 dX9_linked_72 rfl kc_X9_104 ?_
    exact aw_ireturn dX9_linked_74 rfl (by decide) (by decide) ⟨_, rfl, H⟩
set_option maxHeartbeats 4000000 in
set_option maxRecDepth 100000 in
theorem sX9_phrases_0 {w : Wd} {Q : Int32 → Hp → Prop} {h : Hp} {a0 : Nat} {x1 : Int32} (H : (hs h a0).1 = 29 ∧ AC w mX9_layAnew 0 0 (rV fun h1 => (hs h1 a0).1 = 29 ∧ hR h1 a0 7 ≠ 0 ∧ (hs h1 (hR h1 a0 7)).1 = 27 ∧ AC w mX7_hasJoint 0 0 (rI fun r2 h2 => ((¬ r2 = 0 → (hs h2 a0).1 = 29 ∧ AC w mX9_isLinkable 0 0 (rI fun r3 h3 => ((¬ r3 = 0 → (hs h3 a0).1 = 29 ∧ hR h3 a0 8 ≠ 0 ∧ (hs h3 (hR h3 a0 8)).1 = 22 ∧ AC w mX2_gather 0 0 (rV fun h4 => (hs h4 a0).1 = 29 ∧ hR h4 a0 8 ≠ 0 ∧ (hs h4 (hR h4 a0 8)).1 = 22 ∧ AC w mX2_work 0 0 (rV fun h5 => (hs h5 a0).1 = 29 ∧ hR h5 a0 8 ≠ 0 ∧ (hs h5 (hR h5 a0 8)).1 = 22 ∧ AC w mX2_countRowPairs 0 0 (rI fun r6 h6 => Q r6 h6) [.ref (hR h5 a0 8)] h5) [.ref (hR h4 a0 8)] h4) [.ref (hR h3 a0 8), .int x1] h3) ∧ (r3 = 0 → Q (-100003) h3))) [.ref a0, .int x1] h2) ∧ (r2 = 0 → Q (-100001) h2))) [.ref (hR h1 a0 7), .int x1] h1) [.ref a0] h) : AW w mX9_phrases 0 0 (rI Q) 0 0 0 [some (.ref a0), some (.int x1)] [] h := by
  refine aw_aload_n 1 dX9_phrases_0 rfl rfl ?_
  obtain ⟨g1, H⟩ := H
  refine aw_callV (stk := []) (ci := 9) [] 4 dX9_phrases_1 rfl mv_X9_188 ⟨by decide, by decide⟩ g1 (by intro r hr; cases hr; rfl) rfl rfl (by simp [Value.category]) (by decide) H ?_
  rintro _ h1 ⟨rfl, H⟩
  refine aw_aload_n 5 dX9_phrases_4 rfl rfl ?_
  obtain ⟨g2, H⟩ := H
  obtain ⟨g3, H⟩ := H
  refine aw_getR 8 dX9_phrases_5 rfl fl_X9_64 ir_9_7 g2 rfl g3 ?_
  refine aw_iload_n 9 dX9_phrases_8 rfl rfl ?_
  obtain ⟨g4, H⟩ := H
  refine aw_callV (stk := []) (ci := 7) [.int x1] 12 dX9_phrases_9 rfl mv_X9_197 ⟨by decide, by decide⟩ g4 (by intro r hr; cases hr; rfl) rfl rfl (by simp [Value.category]) (by decide) H ?_
  rintro _ h2 ⟨r2, rfl, H⟩
  refine aw_if_ne 18 15 dX9_phrases_12 rfl (by decide) (fun c5 => ?_) (fun c5 => ?_)
  · replace H := H.1 c5
    refine aw_aload_n 19 dX9_phrases_18 rfl rfl ?_
    refine aw_iload_n 20 dX9_phrases_19 rfl rfl ?_
    obtain ⟨g6, H⟩ := H
    refine aw_callV (stk := []) (ci := 9) [.int x1] 23 dX9_phrases_20 rfl mv_X9_266 ⟨by decide, by decide⟩ g6 (by intro r hr; cases hr; rfl) rfl rfl (by simp [Value.category]) (by decide) H ?_
    rintro _ h3 ⟨r3, rfl, H⟩
    refine aw_if_ne 29 26 dX9_phrases_23 rfl (by decide) (fun c7 => ?_) (fun c7 => ?_)
    · replace H := H.1 c7
      refine aw_aload_n 30 dX9_phrases_29 rfl rfl ?_
      obtain ⟨g8, H⟩ := H
      obtain ⟨g9, H⟩ := H
      refine aw_getR 33 dX9_phrases_30 rfl fl_X9_73 ir_9_8 g8 rfl g9 ?_
      refine aw_iload_n 34 dX9_phrases_33 rfl rfl ?_
      obtain ⟨g10, H⟩ := H
      refine aw_callV (stk := []) (ci := 2) [.int x1] 37 dX9_phrases_34 rfl mv_X9_257 ⟨by decide, by decide⟩ g10 (by intro r hr; cases hr; rfl) rfl rfl (by simp [Value.category]) (by decide) H ?_
      rintro _ h4 ⟨rfl, H⟩
      refine aw_aload_n 38 dX9_phrases_37 rfl rfl ?_
      obtain ⟨g11, H⟩ := H
      obtain ⟨g12, H⟩ := H
      refine aw_getR 41 dX9_phrases_38 rfl fl_X9_73 ir_9_8 g11 rfl g12 ?_
      obtain ⟨g13, H⟩ := H
      refine aw_callV (stk := []) (ci := 2) [] 44 dX9_phrases_41 rfl mv_X9_269 ⟨by decide, by decide⟩ g13 (by intro r hr; cases hr; rfl) rfl rfl (by simp [Value.category]) (by decide) H ?_
      rintro _ h5 ⟨rfl, H⟩
      refine aw_aload_n 45 dX9_phrases_44 rfl rfl ?_
      obtain ⟨g14, H⟩ := H
      obtain ⟨g15, H⟩ := H
      refine aw_getR 48 dX9_phrases_45 rfl fl_X9_73 ir_9_8 g14 rfl g15 ?_
      obtain ⟨g16, H⟩ := H
      refine aw_callV (stk := []) (ci := 2) [] 51 dX9_phrases_48 rfl mv_X9_284 ⟨by decide, by decide⟩ g16 (by intro r hr; cases hr; rfl) rfl rfl (by simp [Value.category]) (by decide) H ?_
      rintro _ h6 ⟨r6, rfl, H⟩
      exact aw_ireturn dX9_phrases_51 rfl (by decide) (by decide) ⟨_, rfl, H⟩
    · replace H := H.2 c7
      refine aw_ldc 28 dX9_phrases_26 rfl kc_X9_104 ?_
      exact aw_ireturn dX9_phrases_28 rfl (by decide) (by decide) ⟨_, rfl, H⟩
  · replace H := H.2 c5
    refine aw_ldc 17 dX9_phrases_15 rfl kc_X9_123 ?_
    exact aw_ireturn dX9_phrases_17 rfl (by decide) (by decide) ⟨_, rfl, H⟩
theorem eX9_phrases {w : Wd} {Q : Int32 → Hp → Prop} {h : Hp} {a0 : Nat} {x1 : Int32} (H : AW w mX9_phrases 0 0 (rI Q) 0 0 0 [some (.ref a0), some (.int x1)] [] h) : AC w mX9_phrases 0 0 (rI Q) [.ref a0, .int x1] h := AC.ofL (by decide) (by simp [enl, Value.category]) (by simp [leL, enl, Value.category]) H
set_option maxHeartbeats 4000000 in
set_option maxRecDepth 100000 in
theorem sX9_putSentence_0 {w : Wd} {Q : Int32 → Hp → Prop} {h : Hp} {a0 : Nat} {x1 : Int32} {x2 : Int32} {x3 : Int32} (H : (hs h a0).1 = 29 ∧ AC w mX9_isSlot 0 0 (rI fun r1 h1 => ((r1 = 0 → Q (-100001) h1) ∧ (¬ r1 = 0 → (hs h1 a0).1 = 29 ∧ AC w mX9_isSentence 0 0 (rI fun r2 h2 => ((¬ r2 = 0 → (hs h2 a0).1 = 29 ∧ hR h2 a0 9 ≠ 0 ∧ (hs h2 (hR h2 a0 9)).1 = 10 ∧ vp_in x1 (hs h2 (hR h2 a0 9)).2 ∧ hR h2 (hR h2 a0 9) x1.toNatClampNeg ≠ 0 ∧ hR h2 a0 3 ≠ 0 ∧ (hs h2 (hR h2 a0 3)).1 = 9 ∧ vp_in x2 (hs h2 (hR h2 a0 3)).2 ∧ hR h2 (hR h2 a0 3) x2.toNatClampNeg ≠ 0 ∧ (hs h2 (hR h2 (hR h2 a0 3) x2.toNatClampNeg)).1 = 20 ∧ hR h2 (hR h2 (hR h2 a0 3) x2.toNatClampNeg) 1 ≠ 0 ∧ (hs h2 (hR h2 (hR h2 (hR h2 a0 3) x2.toNatClampNeg) 1)).1 = 6 ∧ vp_in x3 (hs h2 (hR h2 (hR h2 (hR h2 a0 3) x2.toNatClampNeg) 1)).2 ∧ hR h2 (hR h2 (hR h2 (hR h2 a0 3) x2.toNatClampNeg) 1) x3.toNatClampNeg ≠ 0 ∧ hR h2 (hR h2 (hR h2 a0 3) x2.toNatClampNeg) 2 ≠ 0 ∧ (hs h2 (hR h2 (hR h2 (hR h2 a0 3) x2.toNatClampNeg) 2)).1 = 1 ∧ vp_in x3 (hs h2 (hR h2 (hR h2 (hR h2 a0 3) x2.toNatClampNeg) 2)).2 ∧ (hs h2 (hR h2 (hR h2 a0 9) x1.toNatClampNeg)).1 = 25 ∧ AC w mX5_holdSentence 0 0 (rV fun h3 => Q 1 h3) [.ref (hR h2 (hR h2 a0 9) x1.toNatClampNeg), .ref (hR h2 (hR h2 (hR h2 (hR h2 a0 3) x2.toNatClampNeg) 1) x3.toNatClampNeg), .int (hI h2 (hR h2 (hR h2 (hR h2 a0 3) x2.toNatClampNeg) 2) x3.toNatClampNeg)] h2) ∧ (r2 = 0 → Q (-100001) h2))) [.ref a0, .int x2, .int x3] h1))) [.ref a0, .int x1] h) : AW w mX9_putSentence 0 0 (rI Q) 0 0 0 [some (.ref a0), some (.int x1), some (.int x2), some (.int x3)] [] h := by
  refine aw_aload_n 1 dX9_putSentence_0 rfl rfl ?_
  refine aw_iload_n 2 dX9_putSentence_1 rfl rfl ?_
  obtain ⟨g1, H⟩ := H
  refine aw_callV (stk := []) (ci := 9) [.int x1] 5 dX9_putSentence_2 rfl mv_X9_287 ⟨by decide, by decide⟩ g1 (by intro r hr; cases hr; rfl) rfl rfl (by simp [Value.category]) (by decide) H ?_
  rintro _ h1 ⟨r1, rfl, H⟩
  refine aw_if_eq 17 8 dX9_putSentence_5 rfl (by decide) (fun c2 => ?_) (fun c2 => ?_)
  · replace H := H.1 c2
    refine aw_ldc 19 dX9_putSentence_17 rfl kc_X9_123 ?_
    exact aw_ireturn dX9_putSentence_19 rfl (by decide) (by decide) ⟨_, rfl, H⟩
  · replace H := H.2 c2
    refine aw_aload_n 9 dX9_putSentence_8 rfl rfl ?_
    refine aw_iload_n 10 dX9_putSentence_9 rfl rfl ?_
    refine aw_iload_n 11 dX9_putSentence_10 rfl rfl ?_
    obtain ⟨g3, H⟩ := H
    refine aw_callV (stk := []) (ci := 9) [.int x2, .int x3] 14 dX9_putSentence_11 rfl mv_X9_151 ⟨by decide, by decide⟩ g3 (by intro r hr; cases hr; rfl) rfl rfl (by simp [Value.category]) (by decide) H ?_
    rintro _ h2 ⟨r2, rfl, H⟩
    refine aw_if_ne 20 17 dX9_putSentence_14 rfl (by decide) (fun c4 => ?_) (fun c4 => ?_)
    · replace H := H.1 c4
      refine aw_aload_n 21 dX9_putSentence_20 rfl rfl ?_
      obtain ⟨g5, H⟩ := H
      obtain ⟨g6, H⟩ := H
      refine aw_getR 24 dX9_putSentence_21 rfl fl_X9_79 ir_9_9 g5 rfl g6 ?_
      refine aw_iload_n 25 dX9_putSentence_24 rfl rfl ?_
      obtain ⟨g7, H⟩ := H
      obtain ⟨g8, H⟩ := H
      obtain ⟨g9, H⟩ := H
      refine aw_aald 26 dX9_putSentence_25 rfl (shp g7) (by decide) g8 rfl g9 ?_
      refine aw_aload_n 27 dX9_putSentence_26 rfl rfl ?_
      obtain ⟨g10, H⟩ := H
      refine aw_getR 30 dX9_putSentence_27 rfl fl_X9_37 ir_9_3 g5 rfl g10 ?_
      refine aw_iload_n 31 dX9_putSentence_30 rfl rfl ?_
      obtain ⟨g11, H⟩ := H
      obtain ⟨g12, H⟩ := H
      obtain ⟨g13, H⟩ := H
      refine aw_aald 32 dX9_putSentence_31 rfl (shp g11) (by decide) g12 rfl g13 ?_
      obtain ⟨g14, H⟩ := H
      obtain ⟨g15, H⟩ := H
      refine aw_getR 35 dX9_putSentence_32 rfl fl_X9_166 ir_0_1 g14 rfl g15 ?_
      refine aw_iload_n 36 dX9_putSentence_35 rfl rfl ?_
      obtain ⟨g16, H⟩ := H
      obtain ⟨g17, H⟩ := H
      obtain ⟨g18, H⟩ := H
      refine aw_aald 37 dX9_putSentence_36 rfl (shp g16) (by decide) g17 rfl g18 ?_
      refine aw_aload_n 38 dX9_putSentence_37 rfl rfl ?_
      refine aw_getR 41 dX9_putSentence_38 rfl fl_X9_37 ir_9_3 g5 rfl g10 ?_
      refine aw_iload_n 42 dX9_putSentence_41 rfl rfl ?_
      refine aw_aald 43 dX9_putSentence_42 rfl (shp g11) (by decide) g12 rfl g13 ?_
      obtain ⟨g19, H⟩ := H
      refine aw_getR 46 dX9_putSentence_43 rfl fl_X9_155 ir_0_2 g14 rfl g19 ?_
      refine aw_iload_n 47 dX9_putSentence_46 rfl rfl ?_
      obtain ⟨g20, H⟩ := H
      obtain ⟨g21, H⟩ := H
      refine aw_iald 48 dX9_putSentence_47 rfl (Or.inl (shp g20)) g21 ?_
      obtain ⟨g22, H⟩ := H
      refine aw_callV (stk := []) (ci := 5) [.ref (hR h2 (hR h2 (hR h2 (hR h2 a0 3) x2.toNatClampNeg) 1) x3.toNatClampNeg), .int (hI h2 (hR h2 (hR h2 (hR h2 a0 3) x2.toNatClampNeg) 2) x3.toNatClampNeg)] 51 dX9_putSentence_48 rfl mv_X9_290 ⟨by decide, by decide⟩ g22 (by intro r hr; cases hr; rfl) rfl rfl (by simp [Value.category]) (by decide) H ?_
      rintro _ h3 ⟨rfl, H⟩
      refine aw_iconst (v := 1) 52 dX9_putSentence_51 rfl (by decide) ?_
      exact aw_ireturn dX9_putSentence_52 rfl (by decide) (by decide) ⟨_, rfl, H⟩
    · replace H := H.2 c4
      refine aw_ldc 19 dX9_putSentence_17 rfl kc_X9_123 ?_
      exact aw_ireturn dX9_putSentence_19 rfl (by decide) (by decide) ⟨_, rfl, H⟩
theorem eX9_putSentence {w : Wd} {Q : Int32 → Hp → Prop} {h : Hp} {a0 : Nat} {x1 : Int32} {x2 : Int32} {x3 : Int32} (H : AW w mX9_putSentence 0 0 (rI Q) 0 0 0 [some (.ref a0), some (.int x1), some (.int x2), some (.int x3)] [] h) : AC w mX9_putSentence 0 0 (rI Q) [.ref a0, .int x1, .int x2, .int x3] h := AC.ofL (by decide) (by simp [enl, Value.category]) (by simp [leL, enl, Value.category]) H
set_option maxHeartbeats 4000000 in
set_option maxRecDepth 100000 in
theorem sX9_putJoint_0 {w : Wd} {Q : Int32 → Hp → Prop} {h : Hp} {a0 : Nat} {x1 : Int32} {x2 : Int32} (H : (hs h a0).1 = 29 ∧ AC w mX9_layAnew 0 0 (rV fun h1 => (hs h1 a0).1 = 29 ∧ AC w mX9_isSlot 0 0 (rI fun r2 h2 => ((r2 = 0 → Q (-100001) h2) ∧ (¬ r2 = 0 → (hs h2 a0).1 = 29 ∧ hR h2 a0 7 ≠ 0 ∧ (hs h2 (hR h2 a0 7)).1 = 27 ∧ AC w mX7_hasJoint 0 0 (rI fun r3 h3 => ((¬ r3 = 0 → (hs h3 a0).1 = 29 ∧ hR h3 a0 3 ≠ 0 ∧ (hs h3 (hR h3 a0 3)).1 = 9 ∧ vp_in 0 (hs h3 (hR h3 a0 3)).2 ∧ hR h3 (hR h3 a0 3) (0 : Int32).toNatClampNeg ≠ 0 ∧ hR h3 a0 7 ≠ 0 ∧ (hs h3 (hR h3 a0 7)).1 = 27 ∧ hR h3 (hR h3 a0 7) 14 ≠ 0 ∧ (hs h3 (hR h3 (hR h3 a0 7) 14)).1 = 1 ∧ vp_in x2 (hs h3 (hR h3 (hR h3 a0 7) 14)).2 ∧ hR h3 (hR h3 a0 7) 13 ≠ 0 ∧ (hs h3 (hR h3 (hR h3 a0 7) 13)).1 = 1 ∧ vp_in x2 (hs h3 (hR h3 (hR h3 a0 7) 13)).2 ∧ (hs h3 1).1 = 4 ∧ vp_in (hI h3 (hR h3 (hR h3 a0 7) 13) x2.toNatClampNeg) (hs h3 1).2 ∧ (hs h3 (hR h3 (hR h3 a0 3) (0 : Int32).toNatClampNeg)).1 = 20 ∧ AC w mX0_wordsOf 0 0 (rI fun r4 h4 => (hs h4 a0).1 = 29 ∧ hR h4 a0 9 ≠ 0 ∧ (hs h4 (hR h4 a0 9)).1 = 10 ∧ vp_in x1 (hs h4 (hR h4 a0 9)).2 ∧ hR h4 (hR h4 a0 9) x1.toNatClampNeg ≠ 0 ∧ hR h4 a0 7 ≠ 0 ∧ (hs h4 (hR h4 a0 7)).1 = 27 ∧ hR h4 (hR h4 a0 7) 16 ≠ 0 ∧ (hs h4 (hR h4 (hR h4 a0 7) 16)).1 = 1 ∧ vp_in x2 (hs h4 (hR h4 (hR h4 a0 7) 16)).2 ∧ (hs h4 (hR h4 (hR h4 a0 9) x1.toNatClampNeg)).1 = 25 ∧ AC w mX5_holdJoint 0 0 (rV fun h5 => Q 1 h5) [.ref (hR h4 (hR h4 a0 9) x1.toNatClampNeg), .int (hI h4 (hR h4 (hR h4 a0 7) 16) x2.toNatClampNeg), .int r4] h4) [.ref (hR h3 (hR h3 a0 3) (0 : Int32).toNatClampNeg), .int (hI h3 (hR h3 (hR h3 a0 7) 14) x2.toNatClampNeg), .int (hI h3 1 (hI h3 (hR h3 (hR h3 a0 7) 13) x2.toNatClampNeg).toNatClampNeg)] h3) ∧ (r3 = 0 → Q (-100001) h3))) [.ref (hR h2 a0 7), .int x2] h2))) [.ref a0, .int x1] h1) [.ref a0] h) : AW w mX9_putJoint 0 0 (rI Q) 0 0 0 [some (.ref a0), some (.int x1), some (.int x2), none] [] h := by
  refine aw_aload_n 1 dX9_putJoint_0 rfl rfl ?_
  obtain ⟨g1, H⟩ := H
  refine aw_callV (stk := []) (ci := 9) [] 4 dX9_putJoint_1 rfl mv_X9_188 ⟨by decide, by decide⟩ g1 (by intro r hr; cases hr; rfl) rfl rfl (by simp [Value.category]) (by decide) H ?_
  rintro _ h1 ⟨rfl, H⟩
  refine aw_aload_n 5 dX9_putJoint_4 rfl rfl ?_
  refine aw_iload_n 6 dX9_putJoint_5 rfl rfl ?_
  obtain ⟨g2, H⟩ := H
  refine aw_callV (stk := []) (ci := 9) [.int x1] 9 dX9_putJoint_6 rfl mv_X9_287 ⟨by decide, by decide⟩ g2 (by intro r hr; cases hr; rfl) rfl rfl (by simp [Value.category]) (by decide) H ?_
  rintro _ h2 ⟨r2, rfl, H⟩
  refine aw_if_eq 23 12 dX9_putJoint_9 rfl (by decide) (fun c3 => ?_) (fun c3 => ?_)
  · replace H := H.1 c3
    refine aw_ldc 25 dX9_putJoint_23 rfl kc_X9_123 ?_
    exact aw_ireturn dX9_putJoint_25 rfl (by decide) (by decide) ⟨_, rfl, H⟩
  · replace H := H.2 c3
    refine aw_aload_n 13 dX9_putJoint_12 rfl rfl ?_
    obtain ⟨g4, H⟩ := H
    obtain ⟨g5, H⟩ := H
    refine aw_getR 16 dX9_putJoint_13 rfl fl_X9_64 ir_9_7 g4 rfl g5 ?_
    refine aw_iload_n 17 dX9_putJoint_16 rfl rfl ?_
    obtain ⟨g6, H⟩ := H
    refine aw_callV (stk := []) (ci := 7) [.int x2] 20 dX9_putJoint_17 rfl mv_X9_197 ⟨by decide, by decide⟩ g6 (by intro r hr; cases hr; rfl) rfl rfl (by simp [Value.category]) (by decide) H ?_
    rintro _ h3 ⟨r3, rfl, H⟩
    refine aw_if_ne 26 23 dX9_putJoint_20 rfl (by decide) (fun c7 => ?_) (fun c7 => ?_)
    · replace H := H.1 c7
      refine aw_aload_n 27 dX9_putJoint_26 rfl rfl ?_
      obtain ⟨g8, H⟩ := H
      obtain ⟨g9, H⟩ := H
      refine aw_getR 30 dX9_putJoint_27 rfl fl_X9_37 ir_9_3 g8 rfl g9 ?_
      refine aw_iconst (v := 0) 31 dX9_putJoint_30 rfl (by decide) ?_
      obtain ⟨g10, H⟩ := H
      obtain ⟨g11, H⟩ := H
      obtain ⟨g12, H⟩ := H
      refine aw_aald 32 dX9_putJoint_31 rfl (shp g10) (by decide) g11 rfl g12 ?_
      refine aw_aload_n 33 dX9_putJoint_32 rfl rfl ?_
      obtain ⟨g13, H⟩ := H
      refine aw_getR 36 dX9_putJoint_33 rfl fl_X9_64 ir_9_7 g8 rfl g13 ?_
      obtain ⟨g14, H⟩ := H
      obtain ⟨g15, H⟩ := H
      refine aw_getR 39 dX9_putJoint_36 rfl fl_X9_203 ir_7_14 g14 rfl g15 ?_
      refine aw_iload_n 40 dX9_putJoint_39 rfl rfl ?_
      obtain ⟨g16, H⟩ := H
      obtain ⟨g17, H⟩ := H
      refine aw_iald 41 dX9_putJoint_40 rfl (Or.inl (shp g16)) g17 ?_
      refine aw_gets (j := 1) 44 dX9_putJoint_41 rfl (by decide) gs_X9_212 ?_
      refine aw_aload_n 45 dX9_putJoint_44 rfl rfl ?_
      refine aw_getR 48 dX9_putJoint_45 rfl fl_X9_64 ir_9_7 g8 rfl g13 ?_
      obtain ⟨g18, H⟩ := H
      refine aw_getR 51 dX9_putJoint_48 rfl fl_X9_200 ir_7_13 g14 rfl g18 ?_
      refine aw_iload_n 52 dX9_putJoint_51 rfl rfl ?_
      obtain ⟨g19, H⟩ := H
      obtain ⟨g20, H⟩ := H
      refine aw_iald 53 dX9_putJoint_52 rfl (Or.inl (shp g19)) g20 ?_
      obtain ⟨g21, H⟩ := H
      obtain ⟨g22, H⟩ := H
      refine aw_iald 54 dX9_putJoint_53 rfl (Or.inr (shp g21)) g22 ?_
      obtain ⟨g23, H⟩ := H
      refine aw_callV (stk := []) (ci := 0) [.int (hI h3 (hR h3 (hR h3 a0 7) 14) x2.toNatClampNeg), .int (hI h3 1 (hI h3 (hR h3 (hR h3 a0 7) 13) x2.toNatClampNeg).toNatClampNeg)] 57 dX9_putJoint_54 rfl mv_X9_144 ⟨by decide, by decide⟩ g23 (by intro r hr; cases hr; rfl) rfl rfl (by simp [Value.category]) (by decide) H ?_
      rintro _ h4 ⟨r4, rfl, H⟩
      refine aw_istore_n (loc' := [some (.ref a0), some (.int x1), some (.int x2), some (.int r4)]) 58 dX9_putJoint_57 rfl (by decide) rfl ?_
      refine aw_aload_n 59 dX9_putJoint_58 rfl rfl ?_
      obtain ⟨g24, H⟩ := H
      obtain ⟨g25, H⟩ := H
      refine aw_getR 62 dX9_putJoint_59 rfl fl_X9_79 ir_9_9 g24 rfl g25 ?_
      refine aw_iload_n 63 dX9_putJoint_62 rfl rfl ?_
      obtain ⟨g26, H⟩ := H
      obtain ⟨g27, H⟩ := H
      obtain ⟨g28, H⟩ := H
      refine aw_aald 64 dX9_putJoint_63 rfl (shp g26) (by decide) g27 rfl g28 ?_
      refine aw_aload_n 65 dX9_putJoint_64 rfl rfl ?_
      obtain ⟨g29, H⟩ := H
      refine aw_getR 68 dX9_putJoint_65 rfl fl_X9_64 ir_9_7 g24 rfl g29 ?_
      obtain ⟨g30, H⟩ := H
      obtain ⟨g31, H⟩ := H
      refine aw_getR 71 dX9_putJoint_68 rfl fl_X9_209 ir_7_16 g30 rfl g31 ?_
      refine aw_iload_n 72 dX9_putJoint_71 rfl rfl ?_
      obtain ⟨g32, H⟩ := H
      obtain ⟨g33, H⟩ := H
      refine aw_iald 73 dX9_putJoint_72 rfl (Or.inl (shp g32)) g33 ?_
      refine aw_iload_n 74 dX9_putJoint_73 rfl rfl ?_
      obtain ⟨g34, H⟩ := H
      refine aw_callV (stk := []) (ci := 5) [.int (hI h4 (hR h4 (hR h4 a0 7) 16) x2.toNatClampNeg), .int r4] 77 dX9_putJoint_74 rfl mv_X9_294 ⟨by decide, by decide⟩ g34 (by intro r hr; cases hr; rfl) rfl rfl (by simp [Value.category]) (by decide) H ?_
      rintro _ h5 ⟨rfl, H⟩
      refine aw_iconst (v := 1) 78 dX9_putJoint_77 rfl (by decide) ?_
      exact aw_ireturn dX9_putJoint_78 rfl (by decide) (by decide) ⟨_, rfl, H⟩
    · replace H := H.2 c7
      refine aw_ldc 25 dX9_putJoint_23 rfl kc_X9_123 ?_
      exact aw_ireturn dX9_putJoint_25 rfl (by decide) (by decide) ⟨_, rfl, H⟩
theorem eX9_putJoint {w : Wd} {Q : Int32 → Hp → Prop} {h : Hp} {a0 : Nat} {x1 : Int32} {x2 : Int32} (H : AW w mX9_putJoint 0 0 (rI Q) 0 0 0 [some (.ref a0), some (.int x1), some (.int x2), none] [] h) : AC w mX9_putJoint 0 0 (rI Q) [.ref a0, .int x1, .int x2] h := AC.ofL (by decide) (by simp [enl, Value.category]) (by simp [leL, enl, Value.category]) H
set_option maxHeartbeats 4000000 in
set_option maxRecDepth 100000 in
theorem sX9_putRow_0 {w : Wd} {Q : Int32 → Hp → Prop} {h : Hp} {a0 : Nat} {x1 : Int32} {x2 : Int32} (H : (hs h a0).1 = 29 ∧ AC w mX9_isSlot 0 0 (rI fun r1 h1 => ((¬ r1 = 0 → ((x2 ≤ 30 → ((0 ≤ x2 → (hs h1 a0).1 = 29 ∧ hR h1 a0 9 ≠ 0 ∧ (hs h1 (hR h1 a0 9)).1 = 10 ∧ vp_in x1 (hs h1 (hR h1 a0 9)).2 ∧ hR h1 (hR h1 a0 9) x1.toNatClampNeg ≠ 0 ∧ (hs h1 (hR h1 (hR h1 a0 9) x1.toNatClampNeg)).1 = 25 ∧ AC w mX5_holdRow 0 0 (rV fun h2 => (hs h2 a0).1 = 29 ∧ AC w mX9_fine 0 0 (rI fun r3 h3 => Q r3 h3) [.ref a0, .int x2] h2) [.ref (hR h1 (hR h1 a0 9) x1.toNatClampNeg), .int x2] h1) ∧ (¬ 0 ≤ x2 → (hs h1 a0).1 = 29 ∧ AC w mX9_meet 0 0 (rI fun r4 h4 => Q r4 h4) [.ref a0, .int 4] h1))) ∧ (¬ x2 ≤ 30 → Q (-100002) h1))) ∧ (r1 = 0 → Q (-100001) h1))) [.ref a0, .int x1] h) : AW w mX9_putRow 0 0 (rI Q) 0 0 0 [some (.ref a0), some (.int x1), some (.int x2)] [] h := by
  refine aw_aload_n 1 dX9_putRow_0 rfl rfl ?_
  refine aw_iload_n 2 dX9_putRow_1 rfl rfl ?_
  obtain ⟨g1, H⟩ := H
  refine aw_callV (stk := []) (ci := 9) [.int x1] 5 dX9_putRow_2 rfl mv_X9_287 ⟨by decide, by decide⟩ g1 (by intro r hr; cases hr; rfl) rfl rfl (by simp [Value.category]) (by decide) H ?_
  rintro _ h1 ⟨r1, rfl, H⟩
  refine aw_if_ne 11 8 dX9_putRow_5 rfl (by decide) (fun c2 => ?_) (fun c2 => ?_)
  · replace H := H.1 c2
    refine aw_iload_n 12 dX9_putRow_11 rfl rfl ?_
    refine aw_bipush (v := 30) 14 dX9_putRow_12 rfl (by decide) ?_
    refine aw_icmp_le 20 17 dX9_putRow_14 rfl (by decide) (fun c3 => ?_) (fun c3 => ?_)
    · replace H := H.1 c3
      refine aw_iload_n 21 dX9_putRow_20 rfl rfl ?_
      refine aw_if_ge 30 24 dX9_putRow_21 rfl (by decide) (fun c4 => ?_) (fun c4 => ?_)
      · replace H := H.1 c4
        refine aw_aload_n 31 dX9_putRow_30 rfl rfl ?_
        obtain ⟨g5, H⟩ := H
        obtain ⟨g6, H⟩ := H
        refine aw_getR 34 dX9_putRow_31 rfl fl_X9_79 ir_9_9 g5 rfl g6 ?_
        refine aw_iload_n 35 dX9_putRow_34 rfl rfl ?_
        obtain ⟨g7, H⟩ := H
        obtain ⟨g8, H⟩ := H
        obtain ⟨g9, H⟩ := H
        refine aw_aald 36 dX9_putRow_35 rfl (shp g7) (by decide) g8 rfl g9 ?_
        refine aw_iload_n 37 dX9_putRow_36 rfl rfl ?_
        obtain ⟨g10, H⟩ := H
        refine aw_callV (stk := []) (ci := 5) [.int x2] 40 dX9_putRow_37 rfl mv_X9_300 ⟨by decide, by decide⟩ g10 (by intro r hr; cases hr; rfl) rfl rfl (by simp [Value.category]) (by decide) H ?_
        rintro _ h2 ⟨rfl, H⟩
        refine aw_aload_n 41 dX9_putRow_40 rfl rfl ?_
        refine aw_iload_n 42 dX9_putRow_41 rfl rfl ?_
        obtain ⟨g11, H⟩ := H
        refine aw_callV (stk := []) (ci := 9) [.int x2] 45 dX9_putRow_42 rfl mv_X9_303 ⟨by decide, by decide⟩ g11 (by intro r hr; cases hr; rfl) rfl rfl (by simp [Value.category]) (by decide) H ?_
        rintro _ h3 ⟨r3, rfl, H⟩
        exact aw_ireturn dX9_putRow_45 rfl (by decide) (by decide) ⟨_, rfl, H⟩
      · replace H := H.2 c4
        refine aw_aload_n 25 dX9_putRow_24 rfl rfl ?_
        refine aw_iconst (v := 4) 26 dX9_putRow_25 rfl (by decide) ?_
        obtain ⟨g12, H⟩ := H
        refine aw_callV (stk := []) (ci := 9) [.int 4] 29 dX9_putRow_26 rfl mv_X9_297 ⟨by decide, by decide⟩ g12 (by intro r hr; cases hr; rfl) rfl rfl (by simp [Value.category]) (by decide) H ?_
        rintro _ h4 ⟨r4, rfl, H⟩
        exact aw_ireturn dX9_putRow_29 rfl (by decide) (by decide) ⟨_, rfl, H⟩
    · replace H := H.2 c3
      refine aw_ldc 19 dX9_putRow_17 rfl kc_X9_99 ?_
      exact aw_ireturn dX9_putRow_19 rfl (by decide) (by decide) ⟨_, rfl, H⟩
  · replace H := H.2 c2
    refine aw_ldc 10 dX9_putRow_8 rfl kc_X9_123 ?_
    exact aw_ireturn dX9_putRow_10 rfl (by decide) (by decide) ⟨_, rfl, H⟩
theorem eX9_putRow {w : Wd} {Q : Int32 → Hp → Prop} {h : Hp} {a0 : Nat} {x1 : Int32} {x2 : Int32} (H : AW w mX9_putRow 0 0 (rI Q) 0 0 0 [some (.ref a0), some (.int x1), some (.int x2)] [] h) : AC w mX9_putRow 0 0 (rI Q) [.ref a0, .int x1, .int x2] h := AC.ofL (by decide) (by simp [enl, Value.category]) (by simp [leL, enl, Value.category]) H
set_option maxHeartbeats 4000000 in
set_option maxRecDepth 100000 in
theorem sX9_clear_0 {w : Wd} {Q : Int32 → Hp → Prop} {h : Hp} {a0 : Nat} {x1 : Int32} (H : (hs h a0).1 = 29 ∧ AC w mX9_isSlot 0 0 (rI fun r1 h1 => ((¬ r1 = 0 → (hs h1 a0).1 = 29 ∧ hR h1 a0 9 ≠ 0 ∧ (hs h1 (hR h1 a0 9)).1 = 10 ∧ vp_in x1 (hs h1 (hR h1 a0 9)).2 ∧ hR h1 (hR h1 a0 9) x1.toNatClampNeg ≠ 0 ∧ (hs h1 (hR h1 (hR h1 a0 9) x1.toNatClampNeg)).1 = 25 ∧ ((¬ (hI h1 (hR h1 (hR h1 a0 9) x1.toNatClampNeg) 0) = 0 → ∀ h2, h2 = sI h1 (hR h1 (hR h1 a0 9) x1.toNatClampNeg) 0 0 → Q 1 h2) ∧ ((hI h1 (hR h1 (hR h1 a0 9) x1.toNatClampNeg) 0) = 0 → ∀ h3, h3 = sI h1 (hR h1 (hR h1 a0 9) x1.toNatClampNeg) 0 0 → Q 0 h3))) ∧ (r1 = 0 → Q (-100001) h1))) [.ref a0, .int x1] h) : AW w mX9_clear 0 0 (rI Q) 0 0 0 [some (.ref a0), some (.int x1), none] [] h := by
  refine aw_aload_n 1 dX9_clear_0 rfl rfl ?_
  refine aw_iload_n 2 dX9_clear_1 rfl rfl ?_
  obtain ⟨g1, H⟩ := H
  refine aw_callV (stk := []) (ci := 9) [.int x1] 5 dX9_clear_2 rfl mv_X9_287 ⟨by decide, by decide⟩ g1 (by intro r hr; cases hr; rfl) rfl rfl (by simp [Value.category]) (by decide) H ?_
  rintro _ h1 ⟨r1, rfl, H⟩
  refine aw_if_ne 11 8 dX9_clear_5 rfl (by decide) (fun c2 => ?_) (fun c2 => ?_)
  · replace H := H.1 c2
    refine aw_aload_n 12 dX9_clear_11 rfl rfl ?_
    obtain ⟨g3, H⟩ := H
    obtain ⟨g4, H⟩ := H
    refine aw_getR 15 dX9_clear_12 rfl fl_X9_79 ir_9_9 g3 rfl g4 ?_
    refine aw_iload_n 16 dX9_clear_15 rfl rfl ?_
    obtain ⟨g5, H⟩ := H
    obtain ⟨g6, H⟩ := H
    obtain ⟨g7, H⟩ := H
    refine aw_aald 17 dX9_clear_16 rfl (shp g5) (by decide) g6 rfl g7 ?_
    obtain ⟨g8, H⟩ := H
    refine aw_getI 20 dX9_clear_17 rfl fl_X9_306 (by decide) g8 ?_
    refine aw_if_ne 27 23 dX9_clear_20 rfl (by decide) (fun c9 => ?_) (fun c9 => ?_)
    · replace H := H.1 c9
      refine aw_iconst (v := 1) 28 dX9_clear_27 rfl (by decide) ?_
      refine aw_istore_n (loc' := [some (.ref a0), some (.int x1), some (.int 1)]) 29 dX9_clear_28 rfl (by decide) rfl ?_
      refine aw_aload_n 30 dX9_clear_29 rfl rfl ?_
      refine aw_getR 33 dX9_clear_30 rfl fl_X9_79 ir_9_9 g3 rfl g4 ?_
      refine aw_iload_n 34 dX9_clear_33 rfl rfl ?_
      refine aw_aald 35 dX9_clear_34 rfl (shp g5) (by decide) g6 rfl g7 ?_
      refine aw_iconst (v := 0) 36 dX9_clear_35 rfl (by decide) ?_
      refine aw_putI 39 dX9_clear_36 rfl fl_X9_306 (by decide) g8 nf_5_0 ?_
      replace H := H _ rfl
      refine aw_iload_n 40 dX9_clear_39 rfl rfl ?_
      exact aw_ireturn dX9_clear_40 rfl (by decide) (by decide) ⟨_, rfl, H⟩
    · replace H := H.2 c9
      refine aw_iconst (v := 0) 24 dX9_clear_23 rfl (by decide) ?_
      refine aw_goto 28 dX9_clear_24 (by decide) ?_
      refine aw_istore_n (loc' := [some (.ref a0), some (.int x1), some (.int 0)]) 29 dX9_clear_28 rfl (by decide) rfl ?_
      refine aw_aload_n 30 dX9_clear_29 rfl rfl ?_
      refine aw_getR 33 dX9_clear_30 rfl fl_X9_79 ir_9_9 g3 rfl g4 ?_
      refine aw_iload_n 34 dX9_clear_33 rfl rfl ?_
      refine aw_aald 35 dX9_clear_34 rfl (shp g5) (by decide) g6 rfl g7 ?_
      refine aw_iconst (v := 0) 36 dX9_clear_35 rfl (by decide) ?_
      refine aw_putI 39 dX9_clear_36 rfl fl_X9_306 (by decide) g8 nf_5_0 ?_
      replace H := H _ rfl
      refine aw_iload_n 40 dX9_clear_39 rfl rfl ?_
      exact aw_ireturn dX9_clear_40 rfl (by decide) (by decide) ⟨_, rfl, H⟩
  · replace H := H.2 c2
    refine aw_ldc 10 dX9_clear_8 rfl kc_X9_123 ?_
    exact aw_ireturn dX9_clear_10 rfl (by decide) (by decide) ⟨_, rfl, H⟩
theorem eX9_clear {w : Wd} {Q : Int32 → Hp → Prop} {h : Hp} {a0 : Nat} {x1 : Int32} (H : AW w mX9_clear 0 0 (rI Q) 0 0 0 [some (.ref a0), some (.int x1), none] [] h) : AC w mX9_clear 0 0 (rI Q) [.ref a0, .int x1] h := AC.ofL (by decide) (by simp [enl, Value.category]) (by simp [leL, enl, Value.category]) H
set_option maxHeartbeats 4000000 in
set_option maxRecDepth 100000 in
theorem sX9_sort_0 {w : Wd} {Q : Int32 → Hp → Prop} {h : Hp} {a0 : Nat} {x1 : Int32} (H : (hs h a0).1 = 29 ∧ AC w mX9_isSlot 0 0 (rI fun r1 h1 => ((r1 = 0 → Q (-100001) h1) ∧ (¬ r1 = 0 → (hs h1 a0).1 = 29 ∧ hR h1 a0 9 ≠ 0 ∧ (hs h1 (hR h1 a0 9)).1 = 10 ∧ vp_in x1 (hs h1 (hR h1 a0 9)).2 ∧ hR h1 (hR h1 a0 9) x1.toNatClampNeg ≠ 0 ∧ (hs h1 (hR h1 (hR h1 a0 9) x1.toNatClampNeg)).1 = 25 ∧ Q (hI h1 (hR h1 (hR h1 a0 9) x1.toNatClampNeg) 0) h1))) [.ref a0, .int x1] h) : AW w mX9_sort 0 0 (rI Q) 0 0 0 [some (.ref a0), some (.int x1)] [] h := by
  refine aw_aload_n 1 dX9_sort_0 rfl rfl ?_
  refine aw_iload_n 2 dX9_sort_1 rfl rfl ?_
  obtain ⟨g1, H⟩ := H
  refine aw_callV (stk := []) (ci := 9) [.int x1] 5 dX9_sort_2 rfl mv_X9_287 ⟨by decide, by decide⟩ g1 (by intro r hr; cases hr; rfl) rfl rfl (by simp [Value.category]) (by decide) H ?_
  rintro _ h1 ⟨r1, rfl, H⟩
  refine aw_if_eq 20 8 dX9_sort_5 rfl (by decide) (fun c2 => ?_) (fun c2 => ?_)
  · replace H := H.1 c2
    refine aw_ldc 22 dX9_sort_20 rfl kc_X9_123 ?_
    exact aw_ireturn dX9_sort_22 rfl (by decide) (by decide) ⟨_, rfl, H⟩
  · replace H := H.2 c2
    refine aw_aload_n 9 dX9_sort_8 rfl rfl ?_
    obtain ⟨g3, H⟩ := H
    obtain ⟨g4, H⟩ := H
    refine aw_getR 12 dX9_sort_9 rfl fl_X9_79 ir_9_9 g3 rfl g4 ?_
    refine aw_iload_n 13 dX9_sort_12 rfl rfl ?_
    obtain ⟨g5, H⟩ := H
    obtain ⟨g6, H⟩ := H
    obtain ⟨g7, H⟩ := H
    refine aw_aald 14 dX9_sort_13 rfl (shp g5) (by decide) g6 rfl g7 ?_
    obtain ⟨g8, H⟩ := H
    refine aw_getI 17 dX9_sort_14 rfl fl_X9_306 (by decide) g8 ?_
    refine aw_goto 22 dX9_sort_17 (by decide) ?_
    exact aw_ireturn dX9_sort_22 rfl (by decide) (by decide) ⟨_, rfl, H⟩
theorem eX9_sort {w : Wd} {Q : Int32 → Hp → Prop} {h : Hp} {a0 : Nat} {x1 : Int32} (H : AW w mX9_sort 0 0 (rI Q) 0 0 0 [some (.ref a0), some (.int x1)] [] h) : AC w mX9_sort 0 0 (rI Q) [.ref a0, .int x1] h := AC.ofL (by decide) (by simp [enl, Value.category]) (by simp [leL, enl, Value.category]) H
set_option maxHeartbeats 4000000 in
set_option maxRecDepth 100000 in
theorem sX9_write_0 {w : Wd} {Q : Int32 → Hp → Prop} {h : Hp} {a0 : Nat} {x1 : Int32} {x2 : Int32} {x3 : Int32} (H : (hs h a0).1 = 29 ∧ AC w mX9_isSlot 0 0 (rI fun r1 h1 => ((¬ r1 = 0 → (hs h1 a0).1 = 29 ∧ AC w mX9_placeCode 0 0 (rI fun r2 h2 => ((r2 = 0 → (hs h2 a0).1 = 29 ∧ hR h2 a0 9 ≠ 0 ∧ (hs h2 (hR h2 a0 9)).1 = 10 ∧ vp_in x1 (hs h2 (hR h2 a0 9)).2 ∧ hR h2 (hR h2 a0 9) x1.toNatClampNeg ≠ 0 ∧ (hs h2 (hR h2 (hR h2 a0 9) x1.toNatClampNeg)).1 = 25 ∧ hR h2 (hR h2 (hR h2 a0 9) x1.toNatClampNeg) 2 ≠ 0 ∧ (hs h2 (hR h2 (hR h2 (hR h2 a0 9) x1.toNatClampNeg) 2)).1 = 1 ∧ vp_in x2 (hs h2 (hR h2 (hR h2 (hR h2 a0 9) x1.toNatClampNeg) 2)).2 ∧ ∀ h3, h3 = sI h2 (hR h2 (hR h2 (hR h2 a0 9) x1.toNatClampNeg) 2) x2.toNatClampNeg x3 → AC w mX9_fine 0 0 (rI fun r3 h4 => Q r3 h4) [.ref a0, .int (hI h2 (hR h2 (hR h2 (hR h2 a0 9) x1.toNatClampNeg) 2) x2.toNatClampNeg)] h3) ∧ (¬ r2 = 0 → (hs h2 a0).1 = 29 ∧ AC w mX9_meet 0 0 (rI fun r4 h5 => Q r4 h5) [.ref a0, .int r2] h2))) [.ref a0, .int x1, .int x2] h1) ∧ (r1 = 0 → Q (-100001) h1))) [.ref a0, .int x1] h) : AW w mX9_write 0 0 (rI Q) 0 0 0 [some (.ref a0), some (.int x1), some (.int x2), some (.int x3), none, none] [] h := by
  refine aw_aload_n 1 dX9_write_0 rfl rfl ?_
  refine aw_iload_n 2 dX9_write_1 rfl rfl ?_
  obtain ⟨g1, H⟩ := H
  refine aw_callV (stk := []) (ci := 9) [.int x1] 5 dX9_write_2 rfl mv_X9_287 ⟨by decide, by decide⟩ g1 (by intro r hr; cases hr; rfl) rfl rfl (by simp [Value.category]) (by decide) H ?_
  rintro _ h1 ⟨r1, rfl, H⟩
  refine aw_if_ne 11 8 dX9_write_5 rfl (by decide) (fun c2 => ?_) (fun c2 => ?_)
  · replace H := H.1 c2
    refine aw_aload_n 12 dX9_write_11 rfl rfl ?_
    refine aw_iload_n 13 dX9_write_12 rfl rfl ?_
    refine aw_iload_n 14 dX9_write_13 rfl rfl ?_
    obtain ⟨g3, H⟩ := H
    refine aw_callV (stk := []) (ci := 9) [.int x1, .int x2] 17 dX9_write_14 rfl mv_X9_309 ⟨by decide, by decide⟩ g3 (by intro r hr; cases hr; rfl) rfl rfl (by simp [Value.category]) (by decide) H ?_
    rintro _ h2 ⟨r2, rfl, H⟩
    refine aw_istore (loc' := [some (.ref a0), some (.int x1), some (.int x2), some (.int x3), some (.int r2), none]) 19 dX9_write_17 rfl (by decide) rfl ?_
    refine aw_iload 21 dX9_write_19 rfl rfl ?_
    refine aw_if_eq 31 24 dX9_write_21 rfl (by decide) (fun c4 => ?_) (fun c4 => ?_)
    · replace H := H.1 c4
      refine aw_aload_n 32 dX9_write_31 rfl rfl ?_
      obtain ⟨g5, H⟩ := H
      obtain ⟨g6, H⟩ := H
      refine aw_getR 35 dX9_write_32 rfl fl_X9_79 ir_9_9 g5 rfl g6 ?_
      refine aw_iload_n 36 dX9_write_35 rfl rfl ?_
      obtain ⟨g7, H⟩ := H
      obtain ⟨g8, H⟩ := H
      obtain ⟨g9, H⟩ := H
      refine aw_aald 37 dX9_write_36 rfl (shp g7) (by decide) g8 rfl g9 ?_
      obtain ⟨g10, H⟩ := H
      obtain ⟨g11, H⟩ := H
      refine aw_getR 40 dX9_write_37 rfl fl_X9_312 ir_5_2 g10 rfl g11 ?_
      refine aw_iload_n 41 dX9_write_40 rfl rfl ?_
      obtain ⟨g12, H⟩ := H
      obtain ⟨g13, H⟩ := H
      refine aw_iald 42 dX9_write_41 rfl (Or.inl (shp g12)) g13 ?_
      refine aw_istore (loc' := [some (.ref a0), some (.int x1), some (.int x2), some (.int x3), some (.int r2), some (.int (hI h2 (hR h2 (hR h2 (hR h2 a0 9) x1.toNatClampNeg) 2) x2.toNatClampNeg))]) 44 dX9_write_42 rfl (by decide) rfl ?_
      refine aw_aload_n 45 dX9_write_44 rfl rfl ?_
      refine aw_getR 48 dX9_write_45 rfl fl_X9_79 ir_9_9 g5 rfl g6 ?_
      refine aw_iload_n 49 dX9_write_48 rfl rfl ?_
      refine aw_aald 50 dX9_write_49 rfl (shp g7) (by decide) g8 rfl g9 ?_
      refine aw_getR 53 dX9_write_50 rfl fl_X9_312 ir_5_2 g10 rfl g11 ?_
      refine aw_iload_n 54 dX9_write_53 rfl rfl ?_
      refine aw_iload_n 55 dX9_write_54 rfl rfl ?_
      refine aw_iast 56 dX9_write_55 rfl (shp g12) g13 ?_
      replace H := H _ rfl
      refine aw_aload_n 57 dX9_write_56 rfl rfl ?_
      refine aw_iload 59 dX9_write_57 rfl rfl ?_
      refine aw_callV (stk := []) (ci := 9) [.int (hI h2 (hR h2 (hR h2 (hR h2 a0 9) x1.toNatClampNeg) 2) x2.toNatClampNeg)] 62 dX9_write_59 rfl mv_X9_303 ⟨by decide, by decide⟩ g5 (by intro r hr; cases hr; rfl) rfl rfl (by simp [Value.category]) (by decide) H ?_
      rintro _ h4 ⟨r3, rfl, H⟩
      exact aw_ireturn dX9_write_62 rfl (by decide) (by decide) ⟨_, rfl, H⟩
    · replace H := H.2 c4
      refine aw_aload_n 25 dX9_write_24 rfl rfl ?_
      refine aw_iload 27 dX9_write_25 rfl rfl ?_
      obtain ⟨g14, H⟩ := H
      refine aw_callV (stk := []) (ci := 9) [.int r2] 30 dX9_write_27 rfl mv_X9_297 ⟨by decide, by decide⟩ g14 (by intro r hr; cases hr; rfl) rfl rfl (by simp [Value.category]) (by decide) H ?_
      rintro _ h5 ⟨r4, rfl, H⟩
      exact aw_ireturn dX9_write_30 rfl (by decide) (by decide) ⟨_, rfl, H⟩
  · replace H := H.2 c2
    refine aw_ldc 10 dX9_write_8 rfl kc_X9_123 ?_
    exact aw_ireturn dX9_write_10 rfl (by decide) (by decide) ⟨_, rfl, H⟩
theorem eX9_write {w : Wd} {Q : Int32 → Hp → Prop} {h : Hp} {a0 : Nat} {x1 : Int32} {x2 : Int32} {x3 : Int32} (H : AW w mX9_write 0 0 (rI Q) 0 0 0 [some (.ref a0), some (.int x1), some (.int x2), some (.int x3), none, none] [] h) : AC w mX9_write 0 0 (rI Q) [.ref a0, .int x1, .int x2, .int x3] h := AC.ofL (by decide) (by simp [enl, Value.category]) (by simp [leL, enl, Value.category]) H
set_option maxHeartbeats 4000000 in
set_option maxRecDepth 100000 in
theorem sX9_read_0 {w : Wd} {Q : Int32 → Hp → Prop} {h : Hp} {a0 : Nat} {x1 : Int32} {x2 : Int32} (H : (hs h a0).1 = 29 ∧ AC w mX9_isSlot 0 0 (rI fun r1 h1 => ((¬ r1 = 0 → (hs h1 a0).1 = 29 ∧ AC w mX9_placeCode 0 0 (rI fun r2 h2 => ((¬ r2 = 0 → (hs h2 a0).1 = 29 ∧ AC w mX9_meet 0 0 (rI fun r3 h3 => Q r3 h3) [.ref a0, .int r2] h2) ∧ (r2 = 0 → (hs h2 a0).1 = 29 ∧ hR h2 a0 9 ≠ 0 ∧ (hs h2 (hR h2 a0 9)).1 = 10 ∧ vp_in x1 (hs h2 (hR h2 a0 9)).2 ∧ hR h2 (hR h2 a0 9) x1.toNatClampNeg ≠ 0 ∧ (hs h2 (hR h2 (hR h2 a0 9) x1.toNatClampNeg)).1 = 25 ∧ hR h2 (hR h2 (hR h2 a0 9) x1.toNatClampNeg) 2 ≠ 0 ∧ (hs h2 (hR h2 (hR h2 (hR h2 a0 9) x1.toNatClampNeg) 2)).1 = 1 ∧ vp_in x2 (hs h2 (hR h2 (hR h2 (hR h2 a0 9) x1.toNatClampNeg) 2)).2 ∧ AC w mX9_fine 0 0 (rI fun r4 h4 => Q r4 h4) [.ref a0, .int (hI h2 (hR h2 (hR h2 (hR h2 a0 9) x1.toNatClampNeg) 2) x2.toNatClampNeg)] h2))) [.ref a0, .int x1, .int x2] h1) ∧ (r1 = 0 → Q (-100001) h1))) [.ref a0, .int x1] h) : AW w mX9_read 0 0 (rI Q) 0 0 0 [some (.ref a0), some (.int x1), some (.int x2), none] [] h := by
  refine aw_aload_n 1 dX9_read_0 rfl rfl ?_
  refine aw_iload_n 2 dX9_read_1 rfl rfl ?_
  obtain ⟨g1, H⟩ := H
  refine aw_callV (stk := []) (ci := 9) [.int x1] 5 dX9_read_2 rfl mv_X9_287 ⟨by decide, by decide⟩ g1 (by intro r hr; cases hr; rfl) rfl rfl (by simp [Value.category]) (by decide) H ?_
  rintro _ h1 ⟨r1, rfl, H⟩
  refine aw_if_ne 11 8 dX9_read_5 rfl (by decide) (fun c2 => ?_) (fun c2 => ?_)
  · replace H := H.1 c2
    refine aw_aload_n 12 dX9_read_11 rfl rfl ?_
    refine aw_iload_n 13 dX9_read_12 rfl rfl ?_
    refine aw_iload_n 14 dX9_read_13 rfl rfl ?_
    obtain ⟨g3, H⟩ := H
    refine aw_callV (stk := []) (ci := 9) [.int x1, .int x2] 17 dX9_read_14 rfl mv_X9_309 ⟨by decide, by decide⟩ g3 (by intro r hr; cases hr; rfl) rfl rfl (by simp [Value.category]) (by decide) H ?_
    rintro _ h2 ⟨r2, rfl, H⟩
    refine aw_istore_n (loc' := [some (.ref a0), some (.int x1), some (.int x2), some (.int r2)]) 18 dX9_read_17 rfl (by decide) rfl ?_
    refine aw_iload_n 19 dX9_read_18 rfl rfl ?_
    refine aw_if_ne 40 22 dX9_read_19 rfl (by decide) (fun c4 => ?_) (fun c4 => ?_)
    · replace H := H.1 c4
      refine aw_aload_n 41 dX9_read_40 rfl rfl ?_
      refine aw_iload_n 42 dX9_read_41 rfl rfl ?_
      obtain ⟨g5, H⟩ := H
      refine aw_callV (stk := []) (ci := 9) [.int r2] 45 dX9_read_42 rfl mv_X9_297 ⟨by decide, by decide⟩ g5 (by intro r hr; cases hr; rfl) rfl rfl (by simp [Value.category]) (by decide) H ?_
      rintro _ h3 ⟨r3, rfl, H⟩
      exact aw_ireturn dX9_read_45 rfl (by decide) (by decide) ⟨_, rfl, H⟩
    · replace H := H.2 c4
      refine aw_aload_n 23 dX9_read_22 rfl rfl ?_
      refine aw_aload_n 24 dX9_read_23 rfl rfl ?_
      obtain ⟨g6, H⟩ := H
      obtain ⟨g7, H⟩ := H
      refine aw_getR 27 dX9_read_24 rfl fl_X9_79 ir_9_9 g6 rfl g7 ?_
      refine aw_iload_n 28 dX9_read_27 rfl rfl ?_
      obtain ⟨g8, H⟩ := H
      obtain ⟨g9, H⟩ := H
      obtain ⟨g10, H⟩ := H
      refine aw_aald 29 dX9_read_28 rfl (shp g8) (by decide) g9 rfl g10 ?_
      obtain ⟨g11, H⟩ := H
      obtain ⟨g12, H⟩ := H
      refine aw_getR 32 dX9_read_29 rfl fl_X9_312 ir_5_2 g11 rfl g12 ?_
      refine aw_iload_n 33 dX9_read_32 rfl rfl ?_
      obtain ⟨g13, H⟩ := H
      obtain ⟨g14, H⟩ := H
      refine aw_iald 34 dX9_read_33 rfl (Or.inl (shp g13)) g14 ?_
      refine aw_callV (stk := []) (ci := 9) [.int (hI h2 (hR h2 (hR h2 (hR h2 a0 9) x1.toNatClampNeg) 2) x2.toNatClampNeg)] 37 dX9_read_34 rfl mv_X9_303 ⟨by decide, by decide⟩ g6 (by intro r hr; cases hr; rfl) rfl rfl (by simp [Value.category]) (by decide) H ?_
      rintro _ h4 ⟨r4, rfl, H⟩
      refine aw_goto 45 dX9_read_37 (by decide) ?_
      exact aw_ireturn dX9_read_45 rfl (by decide) (by decide) ⟨_, rfl, H⟩
  · replace H := H.2 c2
    refine aw_ldc 10 dX9_read_8 rfl kc_X9_123 ?_
    exact aw_ireturn dX9_read_10 rfl (by decide) (by decide) ⟨_, rfl, H⟩
theorem eX9_read {w : Wd} {Q : Int32 → Hp → Prop} {h : Hp} {a0 : Nat} {x1 : Int32} {x2 : Int32} (H : AW w mX9_read 0 0 (rI Q) 0 0 0 [some (.ref a0), some (.int x1), some (.int x2), none] [] h) : AC w mX9_read 0 0 (rI Q) [.ref a0, .int x1, .int x2] h := AC.ofL (by decide) (by simp [enl, Value.category]) (by simp [leL, enl, Value.category]) H
set_option maxHeartbeats 4000000 in
set_option maxRecDepth 100000 in
theorem sX9_spell_0 {w : Wd} {Q : Int32 → Hp → Prop} {h : Hp} {a0 : Nat} {x1 : Int32} {x2 : Int32} {x3 : Int32} (H : (hs h a0).1 = 29 ∧ AC w mX9_isSlot 0 0 (rI fun r1 h1 => ((r1 = 0 → Q (-100001) h1) ∧ (¬ r1 = 0 → (hs h1 a0).1 = 29 ∧ AC w mX9_isSlot 0 0 (rI fun r2 h2 => ((¬ r2 = 0 → (hs h2 a0).1 = 29 ∧ AC w mX9_sortCode 0 0 (rI fun r3 h3 => ((¬ r3 = 0 → AW w mX9_spell 0 0 (rI Q) 0 0 40 [some (.ref a0), some (.int x1), some (.int x2), some (.int x3), some (.int r3), none] [] h3) ∧ (r3 = 0 → (hs h3 a0).1 = 29 ∧ AC w mX9_sortCode 0 0 (rI fun r4 h4 => AW w mX9_spell 0 0 (rI Q) 0 0 40 [some (.ref a0), some (.int x1), some (.int x2), some (.int x3), some (.int r4), none] [] h4) [.ref a0, .int x2, .int 3] h3))) [.ref a0, .int x1, .int 1] h2) ∧ (r2 = 0 → Q (-100001) h2))) [.ref a0, .int x2] h1))) [.ref a0, .int x1] h) : AW w mX9_spell 0 0 (rI Q) 0 0 0 [some (.ref a0), some (.int x1), some (.int x2), some (.int x3), none, none] [] h := by
  refine aw_aload_n 1 dX9_spell_0 rfl rfl ?_
  refine aw_iload_n 2 dX9_spell_1 rfl rfl ?_
  obtain ⟨g1, H⟩ := H
  refine aw_callV (stk := []) (ci := 9) [.int x1] 5 dX9_spell_2 rfl mv_X9_287 ⟨by decide, by decide⟩ g1 (by intro r hr; cases hr; rfl) rfl rfl (by simp [Value.category]) (by decide) H ?_
  rintro _ h1 ⟨r1, rfl, H⟩
  refine aw_if_eq 16 8 dX9_spell_5 rfl (by decide) (fun c2 => ?_) (fun c2 => ?_)
  · replace H := H.1 c2
    refine aw_ldc 18 dX9_spell_16 rfl kc_X9_123 ?_
    exact aw_ireturn dX9_spell_18 rfl (by decide) (by decide) ⟨_, rfl, H⟩
  · replace H := H.2 c2
    refine aw_aload_n 9 dX9_spell_8 rfl rfl ?_
    refine aw_iload_n 10 dX9_spell_9 rfl rfl ?_
    obtain ⟨g3, H⟩ := H
    refine aw_callV (stk := []) (ci := 9) [.int x2] 13 dX9_spell_10 rfl mv_X9_287 ⟨by decide, by decide⟩ g3 (by intro r hr; cases hr; rfl) rfl rfl (by simp [Value.category]) (by decide) H ?_
    rintro _ h2 ⟨r2, rfl, H⟩
    refine aw_if_ne 19 16 dX9_spell_13 rfl (by decide) (fun c4 => ?_) (fun c4 => ?_)
    · replace H := H.1 c4
      refine aw_aload_n 20 dX9_spell_19 rfl rfl ?_
      refine aw_iload_n 21 dX9_spell_20 rfl rfl ?_
      refine aw_iconst (v := 1) 22 dX9_spell_21 rfl (by decide) ?_
      obtain ⟨g5, H⟩ := H
      refine aw_callV (stk := []) (ci := 9) [.int x1, .int 1] 25 dX9_spell_22 rfl mv_X9_315 ⟨by decide, by decide⟩ g5 (by intro r hr; cases hr; rfl) rfl rfl (by simp [Value.category]) (by decide) H ?_
      rintro _ h3 ⟨r3, rfl, H⟩
      refine aw_istore (loc' := [some (.ref a0), some (.int x1), some (.int x2), some (.int x3), some (.int r3), none]) 27 dX9_spell_25 rfl (by decide) rfl ?_
      refine aw_iload 29 dX9_spell_27 rfl rfl ?_
      refine aw_if_ne 40 32 dX9_spell_29 rfl (by decide) (fun c6 => ?_) (fun c6 => ?_)
      · replace H := H.1 c6
        exact H
      · replace H := H.2 c6
        refine aw_aload_n 33 dX9_spell_32 rfl rfl ?_
        refine aw_iload_n 34 dX9_spell_33 rfl rfl ?_
        refine aw_iconst (v := 3) 35 dX9_spell_34 rfl (by decide) ?_
        obtain ⟨g7, H⟩ := H
        refine aw_callV (stk := []) (ci := 9) [.int x2, .int 3] 38 dX9_spell_35 rfl mv_X9_315 ⟨by decide, by decide⟩ g7 (by intro r hr; cases hr; rfl) rfl rfl (by simp [Value.category]) (by decide) H ?_
        rintro _ h4 ⟨r4, rfl, H⟩
        refine aw_istore (loc' := [some (.ref a0), some (.int x1), some (.int x2), some (.int x3), some (.int r4), none]) 40 dX9_spell_38 rfl (by decide) rfl ?_
        exact H
    · replace H := H.2 c4
      refine aw_ldc 18 dX9_spell_16 rfl kc_X9_123 ?_
      exact aw_ireturn dX9_spell_18 rfl (by decide) (by decide) ⟨_, rfl, H⟩
theorem eX9_spell {w : Wd} {Q : Int32 → Hp → Prop} {h : Hp} {a0 : Nat} {x1 : Int32} {x2 : Int32} {x3 : Int32} (H : AW w mX9_spell 0 0 (rI Q) 0 0 0 [some (.ref a0), some (.int x1), some (.int x2), some (.int x3), none, none] [] h) : AC w mX9_spell 0 0 (rI Q) [.ref a0, .int x1, .int x2, .int x3] h := AC.ofL (by decide) (by simp [enl, Value.category]) (by simp [leL, enl, Value.category]) H
set_option maxHeartbeats 4000000 in
set_option maxRecDepth 100000 in
theorem sX9_spell_40 {w : Wd} {Q : Int32 → Hp → Prop} {h : Hp} {a0 : Nat} {x1 : Int32} {x2 : Int32} {x3 : Int32} {x4 : Int32} (H : ((x4 = 0 → (hs h a0).1 = 29 ∧ hR h a0 9 ≠ 0 ∧ (hs h (hR h a0 9)).1 = 10 ∧ vp_in x2 (hs h (hR h a0 9)).2 ∧ hR h (hR h a0 9) x2.toNatClampNeg ≠ 0 ∧ vp_in x1 (hs h (hR h a0 9)).2 ∧ hR h (hR h a0 9) x1.toNatClampNeg ≠ 0 ∧ (hs h (hR h (hR h a0 9) x2.toNatClampNeg)).1 = 25 ∧ AC w mX5_copyFrom 0 0 (rI fun r1 h1 => (hs h1 a0).1 = 29 ∧ hR h1 a0 9 ≠ 0 ∧ (hs h1 (hR h1 a0 9)).1 = 10 ∧ vp_in x1 (hs h1 (hR h1 a0 9)).2 ∧ hR h1 (hR h1 a0 9) x1.toNatClampNeg ≠ 0 ∧ (hs h1 (hR h1 (hR h1 a0 9) x1.toNatClampNeg)).1 = 25 ∧ ((¬ r1 = (hI h1 (hR h1 (hR h1 a0 9) x1.toNatClampNeg) 1) → AC w mX9_meet 0 0 (rI fun r2 h2 => Q r2 h2) [.ref a0, .int 3] h1) ∧ (r1 = (hI h1 (hR h1 (hR h1 a0 9) x1.toNatClampNeg) 1) → AC w mX9_fine 0 0 (rI fun r3 h3 => Q r3 h3) [.ref a0, .int r1] h1))) [.ref (hR h (hR h a0 9) x2.toNatClampNeg), .ref (hR h (hR h a0 9) x1.toNatClampNeg), .int x3] h) ∧ (¬ x4 = 0 → (hs h a0).1 = 29 ∧ AC w mX9_meet 0 0 (rI fun r4 h4 => Q r4 h4) [.ref a0, .int x4] h))) : AW w mX9_spell 0 0 (rI Q) 0 0 40 [some (.ref a0), some (.int x1), some (.int x2), some (.int x3), some (.int x4), none] [] h := by
  refine aw_iload 42 dX9_spell_40 rfl rfl ?_
  refine aw_if_eq 52 45 dX9_spell_42 rfl (by decide) (fun c1 => ?_) (fun c1 => ?_)
  · replace H := H.1 c1
    refine aw_aload_n 53 dX9_spell_52 rfl rfl ?_
    obtain ⟨g2, H⟩ := H
    obtain ⟨g3, H⟩ := H
    refine aw_getR 56 dX9_spell_53 rfl fl_X9_79 ir_9_9 g2 rfl g3 ?_
    refine aw_iload_n 57 dX9_spell_56 rfl rfl ?_
    obtain ⟨g4, H⟩ := H
    obtain ⟨g5, H⟩ := H
    obtain ⟨g6, H⟩ := H
    refine aw_aald 58 dX9_spell_57 rfl (shp g4) (by decide) g5 rfl g6 ?_
    refine aw_aload_n 59 dX9_spell_58 rfl rfl ?_
    refine aw_getR 62 dX9_spell_59 rfl fl_X9_79 ir_9_9 g2 rfl g3 ?_
    refine aw_iload_n 63 dX9_spell_62 rfl rfl ?_
    obtain ⟨g7, H⟩ := H
    obtain ⟨g8, H⟩ := H
    refine aw_aald 64 dX9_spell_63 rfl (shp g4) (by decide) g7 rfl g8 ?_
    refine aw_iload_n 65 dX9_spell_64 rfl rfl ?_
    obtain ⟨g9, H⟩ := H
    refine aw_callV (stk := []) (ci := 5) [.ref (hR h (hR h a0 9) x1.toNatClampNeg), .int x3] 68 dX9_spell_65 rfl mv_X9_318 ⟨by decide, by decide⟩ g9 (by intro r hr; cases hr; rfl) rfl rfl (by simp [Value.category]) (by decide) H ?_
    rintro _ h1 ⟨r1, rfl, H⟩
    refine aw_istore (loc' := [some (.ref a0), some (.int x1), some (.int x2), some (.int x3), some (.int x4), some (.int r1)]) 70 dX9_spell_68 rfl (by decide) rfl ?_
    refine aw_iload 72 dX9_spell_70 rfl rfl ?_
    refine aw_aload_n 73 dX9_spell_72 rfl rfl ?_
    obtain ⟨g10, H⟩ := H
    obtain ⟨g11, H⟩ := H
    refine aw_getR 76 dX9_spell_73 rfl fl_X9_79 ir_9_9 g10 rfl g11 ?_
    refine aw_iload_n 77 dX9_spell_76 rfl rfl ?_
    obtain ⟨g12, H⟩ := H
    obtain ⟨g13, H⟩ := H
    obtain ⟨g14, H⟩ := H
    refine aw_aald 78 dX9_spell_77 rfl (shp g12) (by decide) g13 rfl g14 ?_
    obtain ⟨g15, H⟩ := H
    refine aw_getI 81 dX9_spell_78 rfl fl_X9_322 (by decide) g15 ?_
    refine aw_icmp_ne 93 84 dX9_spell_81 rfl (by decide) (fun c16 => ?_) (fun c16 => ?_)
    · replace H := H.1 c16
      refine aw_aload_n 94 dX9_spell_93 rfl rfl ?_
      refine aw_iconst (v := 3) 95 dX9_spell_94 rfl (by decide) ?_
      refine aw_callV (stk := []) (ci := 9) [.int 3] 98 dX9_spell_95 rfl mv_X9_297 ⟨by decide, by decide⟩ g10 (by intro r hr; cases hr; rfl) rfl rfl (by simp [Value.category]) (by decide) H ?_
      rintro _ h2 ⟨r2, rfl, H⟩
      exact aw_ireturn dX9_spell_98 rfl (by decide) (by decide) ⟨_, rfl, H⟩
    · replace H := H.2 c16
      refine aw_aload_n 85 dX9_spell_84 rfl rfl ?_
      refine aw_iload 87 dX9_spell_85 rfl rfl ?_
      refine aw_callV (stk := []) (ci := 9) [.int r1] 90 dX9_spell_87 rfl mv_X9_303 ⟨by decide, by decide⟩ g10 (by intro r hr; cases hr; rfl) rfl rfl (by simp [Value.category]) (by decide) H ?_
      rintro _ h3 ⟨r3, rfl, H⟩
      refine aw_goto 98 dX9_spell_90 (by decide) ?_
      exact aw_ireturn dX9_spell_98 rfl (by decide) (by decide) ⟨_, rfl, H⟩
  · replace H := H.2 c1
    refine aw_aload_n 46 dX9_spell_45 rfl rfl ?_
    refine aw_iload 48 dX9_spell_46 rfl rfl ?_
    obtain ⟨g17, H⟩ := H
    refine aw_callV (stk := []) (ci := 9) [.int x4] 51 dX9_spell_48 rfl mv_X9_297 ⟨by decide, by decide⟩ g17 (by intro r hr; cases hr; rfl) rfl rfl (by simp [Value.category]) (by decide) H ?_
    rintro _ h4 ⟨r4, rfl, H⟩
    exact aw_ireturn dX9_spell_51 rfl (by decide) (by decide) ⟨_, rfl, H⟩
set_option maxHeartbeats 4000000 in
set_option maxRecDepth 100000 in
theorem sX9_rate_0 {w : Wd} {Q : Int32 → Hp → Prop} {h : Hp} {a0 : Nat} {x1 : Int32} (H : (hs h a0).1 = 29 ∧ AC w mX9_isSlot 0 0 (rI fun r1 h1 => ((¬ r1 = 0 → (hs h1 a0).1 = 29 ∧ AC w mX9_sortCode 0 0 (rI fun r2 h2 => ((r2 = 0 → (hs h2 a0).1 = 29 ∧ hR h2 a0 9 ≠ 0 ∧ (hs h2 (hR h2 a0 9)).1 = 10 ∧ vp_in x1 (hs h2 (hR h2 a0 9)).2 ∧ hR h2 (hR h2 a0 9) x1.toNatClampNeg ≠ 0 ∧ (hs h2 (hR h2 (hR h2 a0 9) x1.toNatClampNeg)).1 = 25 ∧ ((¬ (hI h2 (hR h2 (hR h2 a0 9) x1.toNatClampNeg) 4) = 0 → ¬ (hI h2 (hR h2 (hR h2 a0 9) x1.toNatClampNeg) 4) = 0 ∧ AC w mX9_fine 0 0 (rI fun r3 h3 => Q r3 h3) [.ref a0, .int ((100 * (hI h2 (hR h2 (hR h2 a0 9) x1.toNatClampNeg) 3)) / (hI h2 (hR h2 (hR h2 a0 9) x1.toNatClampNeg) 4))] h2) ∧ ((hI h2 (hR h2 (hR h2 a0 9) x1.toNatClampNeg) 4) = 0 → AC w mX9_meet 0 0 (rI fun r4 h4 => Q r4 h4) [.ref a0, .int 6] h2))) ∧ (¬ r2 = 0 → (hs h2 a0).1 = 29 ∧ AC w mX9_meet 0 0 (rI fun r5 h5 => Q r5 h5) [.ref a0, .int r2] h2))) [.ref a0, .int x1, .int 2] h1) ∧ (r1 = 0 → Q (-100001) h1))) [.ref a0, .int x1] h) : AW w mX9_rate 0 0 (rI Q) 0 0 0 [some (.ref a0), some (.int x1), none] [] h := by
  refine aw_aload_n 1 dX9_rate_0 rfl rfl ?_
  refine aw_iload_n 2 dX9_rate_1 rfl rfl ?_
  obtain ⟨g1, H⟩ := H
  refine aw_callV (stk := []) (ci := 9) [.int x1] 5 dX9_rate_2 rfl mv_X9_287 ⟨by decide, by decide⟩ g1 (by intro r hr; cases hr; rfl) rfl rfl (by simp [Value.category]) (by decide) H ?_
  rintro _ h1 ⟨r1, rfl, H⟩
  refine aw_if_ne 11 8 dX9_rate_5 rfl (by decide) (fun c2 => ?_) (fun c2 => ?_)
  · replace H := H.1 c2
    refine aw_aload_n 12 dX9_rate_11 rfl rfl ?_
    refine aw_iload_n 13 dX9_rate_12 rfl rfl ?_
    refine aw_iconst (v := 2) 14 dX9_rate_13 rfl (by decide) ?_
    obtain ⟨g3, H⟩ := H
    refine aw_callV (stk := []) (ci := 9) [.int x1, .int 2] 17 dX9_rate_14 rfl mv_X9_315 ⟨by decide, by decide⟩ g3 (by intro r hr; cases hr; rfl) rfl rfl (by simp [Value.category]) (by decide) H ?_
    rintro _ h2 ⟨r2, rfl, H⟩
    refine aw_istore_n (loc' := [some (.ref a0), some (.int x1), some (.int r2)]) 18 dX9_rate_17 rfl (by decide) rfl ?_
    refine aw_iload_n 19 dX9_rate_18 rfl rfl ?_
    refine aw_if_eq 28 22 dX9_rate_19 rfl (by decide) (fun c4 => ?_) (fun c4 => ?_)
    · replace H := H.1 c4
      refine aw_aload_n 29 dX9_rate_28 rfl rfl ?_
      obtain ⟨g5, H⟩ := H
      obtain ⟨g6, H⟩ := H
      refine aw_getR 32 dX9_rate_29 rfl fl_X9_79 ir_9_9 g5 rfl g6 ?_
      refine aw_iload_n 33 dX9_rate_32 rfl rfl ?_
      obtain ⟨g7, H⟩ := H
      obtain ⟨g8, H⟩ := H
      obtain ⟨g9, H⟩ := H
      refine aw_aald 34 dX9_rate_33 rfl (shp g7) (by decide) g8 rfl g9 ?_
      obtain ⟨g10, H⟩ := H
      refine aw_getI 37 dX9_rate_34 rfl fl_X9_323 (by decide) g10 ?_
      refine aw_if_ne 47 40 dX9_rate_37 rfl (by decide) (fun c11 => ?_) (fun c11 => ?_)
      · replace H := H.1 c11
        refine aw_aload_n 48 dX9_rate_47 rfl rfl ?_
        refine aw_bipush (v := 100) 50 dX9_rate_48 rfl (by decide) ?_
        refine aw_aload_n 51 dX9_rate_50 rfl rfl ?_
        refine aw_getR 54 dX9_rate_51 rfl fl_X9_79 ir_9_9 g5 rfl g6 ?_
        refine aw_iload_n 55 dX9_rate_54 rfl rfl ?_
        refine aw_aald 56 dX9_rate_55 rfl (shp g7) (by decide) g8 rfl g9 ?_
        refine aw_getI 59 dX9_rate_56 rfl fl_X9_326 (by decide) g10 ?_
        refine aw_imul 60 dX9_rate_59 rfl ?_
        refine aw_aload_n 61 dX9_rate_60 rfl rfl ?_
        refine aw_getR 64 dX9_rate_61 rfl fl_X9_79 ir_9_9 g5 rfl g6 ?_
        refine aw_iload_n 65 dX9_rate_64 rfl rfl ?_
        refine aw_aald 66 dX9_rate_65 rfl (shp g7) (by decide) g8 rfl g9 ?_
        refine aw_getI 69 dX9_rate_66 rfl fl_X9_323 (by decide) g10 ?_
        obtain ⟨g12, H⟩ := H
        refine aw_idiv 70 dX9_rate_69 rfl g12 ?_
        refine aw_callV (stk := []) (ci := 9) [.int ((100 * (hI h2 (hR h2 (hR h2 a0 9) x1.toNatClampNeg) 3)) / (hI h2 (hR h2 (hR h2 a0 9) x1.toNatClampNeg) 4))] 73 dX9_rate_70 rfl mv_X9_303 ⟨by decide, by decide⟩ g5 (by intro r hr; cases hr; rfl) rfl rfl (by simp [Value.category]) (by decide) H ?_
        rintro _ h3 ⟨r3, rfl, H⟩
        exact aw_ireturn dX9_rate_73 rfl (by decide) (by decide) ⟨_, rfl, H⟩
      · replace H := H.2 c11
        refine aw_aload_n 41 dX9_rate_40 rfl rfl ?_
        refine aw_bipush (v := 6) 43 dX9_rate_41 rfl (by decide) ?_
        refine aw_callV (stk := []) (ci := 9) [.int 6] 46 dX9_rate_43 rfl mv_X9_297 ⟨by decide, by decide⟩ g5 (by intro r hr; cases hr; rfl) rfl rfl (by simp [Value.category]) (by decide) H ?_
        rintro _ h4 ⟨r4, rfl, H⟩
        exact aw_ireturn dX9_rate_46 rfl (by decide) (by decide) ⟨_, rfl, H⟩
    · replace H := H.2 c4
      refine aw_aload_n 23 dX9_rate_22 rfl rfl ?_
      refine aw_iload_n 24 dX9_rate_23 rfl rfl ?_
      obtain ⟨g13, H⟩ := H
      refine aw_callV (stk := []) (ci := 9) [.int r2] 27 dX9_rate_24 rfl mv_X9_297 ⟨by decide, by decide⟩ g13 (by intro r hr; cases hr; rfl) rfl rfl (by simp [Value.category]) (by decide) H ?_
      rintro _ h5 ⟨r5, rfl, H⟩
      exact aw_ireturn dX9_rate_27 rfl (by decide) (by decide) ⟨_, rfl, H⟩
  · replace H := H.2 c2
    refine aw_ldc 10 dX9_rate_8 rfl kc_X9_123 ?_
    exact aw_ireturn dX9_rate_10 rfl (by decide) (by decide) ⟨_, rfl, H⟩
theorem eX9_rate {w : Wd} {Q : Int32 → Hp → Prop} {h : Hp} {a0 : Nat} {x1 : Int32} (H : AW w mX9_rate 0 0 (rI Q) 0 0 0 [some (.ref a0), some (.int x1), none] [] h) : AC w mX9_rate 0 0 (rI Q) [.ref a0, .int x1] h := AC.ofL (by decide) (by simp [enl, Value.category]) (by simp [leL, enl, Value.category]) H
set_option maxHeartbeats 4000000 in
set_option maxRecDepth 100000 in
theorem sX9_code_0 {w : Wd} {Q : Int32 → Hp → Prop} {h : Hp} {a0 : Nat} (H : (hs h a0).1 = 29 ∧ Q (hI h a0 10) h) : AW w mX9_code 0 0 (rI Q) 0 0 0 [some (.ref a0)] [] h := by
  refine aw_aload_n 1 dX9_code_0 rfl rfl ?_
  obtain ⟨g1, H⟩ := H
  refine aw_getI 4 dX9_code_1 rfl fl_X9_83 (by decide) g1 ?_
  exact aw_ireturn dX9_code_4 rfl (by decide) (by decide) ⟨_, rfl, H⟩
theorem eX9_code {w : Wd} {Q : Int32 → Hp → Prop} {h : Hp} {a0 : Nat} (H : AW w mX9_code 0 0 (rI Q) 0 0 0 [some (.ref a0)] [] h) : AC w mX9_code 0 0 (rI Q) [.ref a0] h := AC.ofL (by decide) (by simp [enl, Value.category]) (by simp [leL, enl, Value.category]) H
set_option maxHeartbeats 4000000 in
set_option maxRecDepth 100000 in
theorem sX9_isBook_0 {w : Wd} {Q : Int32 → Hp → Prop} {h : Hp} {x1 : Int32} (H : ((x1 = 0 → Q 1 h) ∧ (¬ x1 = 0 → ((¬ x1 = 1 → Q 0 h) ∧ (x1 = 1 → Q 1 h))))) : AW w mX9_isBook 0 0 (rI Q) 0 0 0 [none, some (.int x1)] [] h := by
  refine aw_iload_n 1 dX9_isBook_0 rfl rfl ?_
  refine aw_if_eq 9 4 dX9_isBook_1 rfl (by decide) (fun c1 => ?_) (fun c1 => ?_)
  · replace H := H.1 c1
    refine aw_iconst (v := 1) 10 dX9_isBook_9 rfl (by decide) ?_
    refine aw_goto 14 dX9_isBook_10 (by decide) ?_
    exact aw_zreturn dX9_isBook_14 rfl (by decide) (by decide) (by decide) ⟨_, rfl, H⟩
  · replace H := H.2 c1
    refine aw_iload_n 5 dX9_isBook_4 rfl rfl ?_
    refine aw_iconst (v := 1) 6 dX9_isBook_5 rfl (by decide) ?_
    refine aw_icmp_ne 13 9 dX9_isBook_6 rfl (by decide) (fun c2 => ?_) (fun c2 => ?_)
    · replace H := H.1 c2
      refine aw_iconst (v := 0) 14 dX9_isBook_13 rfl (by decide) ?_
      exact aw_zreturn dX9_isBook_14 rfl (by decide) (by decide) (by decide) ⟨_, rfl, H⟩
    · replace H := H.2 c2
      refine aw_iconst (v := 1) 10 dX9_isBook_9 rfl (by decide) ?_
      refine aw_goto 14 dX9_isBook_10 (by decide) ?_
      exact aw_zreturn dX9_isBook_14 rfl (by decide) (by decide) (by decide) ⟨_, rfl, H⟩
theorem eX9_isBook {w : Wd} {Q : Int32 → Hp → Prop} {h : Hp} {a0 : Nat} {x1 : Int32} (H : AW w mX9_isBook 0 0 (rI Q) 0 0 0 [none, some (.int x1)] [] h) : AC w mX9_isBook 0 0 (rI Q) [.ref a0, .int x1] h := AC.ofL (by decide) (by simp [enl, Value.category]) (by simp [leL, enl, Value.category]) H
set_option maxHeartbeats 4000000 in
set_option maxRecDepth 100000 in
theorem sX9_isSentence_0 {w : Wd} {Q : Int32 → Hp → Prop} {h : Hp} {a0 : Nat} {x1 : Int32} {x2 : Int32} (H : (hs h a0).1 = 29 ∧ AC w mX9_isBook 0 0 (rI fun r1 h1 => ((r1 = 0 → Q 0 h1) ∧ (¬ r1 = 0 → (hs h1 a0).1 = 29 ∧ hR h1 a0 3 ≠ 0 ∧ (hs h1 (hR h1 a0 3)).1 = 9 ∧ vp_in x1 (hs h1 (hR h1 a0 3)).2 ∧ hR h1 (hR h1 a0 3) x1.toNatClampNeg ≠ 0 ∧ (hs h1 (hR h1 (hR h1 a0 3) x1.toNatClampNeg)).1 = 20 ∧ AC w mX0_hasRun 0 0 (rI fun r2 h2 => ((r2 = 0 → Q 0 h2) ∧ (¬ r2 = 0 → Q 1 h2))) [.ref (hR h1 (hR h1 a0 3) x1.toNatClampNeg), .int x2, .int 1] h1))) [.ref a0, .int x1] h) : AW w mX9_isSentence 0 0 (rI Q) 0 0 0 [some (.ref a0), some (.int x1), some (.int x2)] [] h := by
  refine aw_aload_n 1 dX9_isSentence_0 rfl rfl ?_
  refine aw_iload_n 2 dX9_isSentence_1 rfl rfl ?_
  obtain ⟨g1, H⟩ := H
  refine aw_callV (stk := []) (ci := 9) [.int x1] 5 dX9_isSentence_2 rfl mv_X9_119 ⟨by decide, by decide⟩ g1 (by intro r hr; cases hr; rfl) rfl rfl (by simp [Value.category]) (by decide) H ?_
  rintro _ h1 ⟨r1, rfl, H⟩
  refine aw_if_eq 26 8 dX9_isSentence_5 rfl (by decide) (fun c2 => ?_) (fun c2 => ?_)
  · replace H := H.1 c2
    refine aw_iconst (v := 0) 27 dX9_isSentence_26 rfl (by decide) ?_
    exact aw_zreturn dX9_isSentence_27 rfl (by decide) (by decide) (by decide) ⟨_, rfl, H⟩
  · replace H := H.2 c2
    refine aw_aload_n 9 dX9_isSentence_8 rfl rfl ?_
    obtain ⟨g3, H⟩ := H
    obtain ⟨g4, H⟩ := H
    refine aw_getR 12 dX9_isSentence_9 rfl fl_X9_37 ir_9_3 g3 rfl g4 ?_
    refine aw_iload_n 13 dX9_isSentence_12 rfl rfl ?_
    obtain ⟨g5, H⟩ := H
    obtain ⟨g6, H⟩ := H
    obtain ⟨g7, H⟩ := H
    refine aw_aald 14 dX9_isSentence_13 rfl (shp g5) (by decide) g6 rfl g7 ?_
    refine aw_iload_n 15 dX9_isSentence_14 rfl rfl ?_
    refine aw_iconst (v := 1) 16 dX9_isSentence_15 rfl (by decide) ?_
    obtain ⟨g8, H⟩ := H
    refine aw_callV (stk := []) (ci := 0) [.int x2, .int 1] 19 dX9_isSentence_16 rfl mv_X9_215 ⟨by decide, by decide⟩ g8 (by intro r hr; cases hr; rfl) rfl rfl (by simp [Value.category]) (by decide) H ?_
    rintro _ h2 ⟨r2, rfl, H⟩
    refine aw_if_eq 26 22 dX9_isSentence_19 rfl (by decide) (fun c9 => ?_) (fun c9 => ?_)
    · replace H := H.1 c9
      refine aw_iconst (v := 0) 27 dX9_isSentence_26 rfl (by decide) ?_
      exact aw_zreturn dX9_isSentence_27 rfl (by decide) (by decide) (by decide) ⟨_, rfl, H⟩
    · replace H := H.2 c9
      refine aw_iconst (v := 1) 23 dX9_isSentence_22 rfl (by decide) ?_
      refine aw_goto 27 dX9_isSentence_23 (by decide) ?_
      exact aw_zreturn dX9_isSentence_27 rfl (by decide) (by decide) (by decide) ⟨_, rfl, H⟩
theorem eX9_isSentence {w : Wd} {Q : Int32 → Hp → Prop} {h : Hp} {a0 : Nat} {x1 : Int32} {x2 : Int32} (H : AW w mX9_isSentence 0 0 (rI Q) 0 0 0 [some (.ref a0), some (.int x1), some (.int x2)] [] h) : AC w mX9_isSentence 0 0 (rI Q) [.ref a0, .int x1, .int x2] h := AC.ofL (by decide) (by simp [enl, Value.category]) (by simp [leL, enl, Value.category]) H
set_option maxHeartbeats 4000000 in
set_option maxRecDepth 100000 in
theorem sX9_isWord_0 {w : Wd} {Q : Int32 → Hp → Prop} {h : Hp} {a0 : Nat} {x1 : Int32} {x2 : Int32} {x3 : Int32} (H : (hs h a0).1 = 29 ∧ AC w mX9_isSentence 0 0 (rI fun r1 h1 => ((r1 = 0 → Q 0 h1) ∧ (¬ r1 = 0 → ((x3 < 0 → Q 0 h1) ∧ (¬ x3 < 0 → (hs h1 a0).1 = 29 ∧ hR h1 a0 3 ≠ 0 ∧ (hs h1 (hR h1 a0 3)).1 = 9 ∧ vp_in x1 (hs h1 (hR h1 a0 3)).2 ∧ hR h1 (hR h1 a0 3) x1.toNatClampNeg ≠ 0 ∧ (hs h1 (hR h1 (hR h1 a0 3) x1.toNatClampNeg)).1 = 20 ∧ hR h1 (hR h1 (hR h1 a0 3) x1.toNatClampNeg) 2 ≠ 0 ∧ (hs h1 (hR h1 (hR h1 (hR h1 a0 3) x1.toNatClampNeg) 2)).1 = 1 ∧ vp_in x2 (hs h1 (hR h1 (hR h1 (hR h1 a0 3) x1.toNatClampNeg) 2)).2 ∧ (((hI h1 (hR h1 (hR h1 (hR h1 a0 3) x1.toNatClampNeg) 2) x2.toNatClampNeg) ≤ x3 → Q 0 h1) ∧ (¬ (hI h1 (hR h1 (hR h1 (hR h1 a0 3) x1.toNatClampNeg) 2) x2.toNatClampNeg) ≤ x3 → Q 1 h1))))))) [.ref a0, .int x1, .int x2] h) : AW w mX9_isWord 0 0 (rI Q) 0 0 0 [some (.ref a0), some (.int x1), some (.int x2), some (.int x3)] [] h := by
  refine aw_aload_n 1 dX9_isWord_0 rfl rfl ?_
  refine aw_iload_n 2 dX9_isWord_1 rfl rfl ?_
  refine aw_iload_n 3 dX9_isWord_2 rfl rfl ?_
  obtain ⟨g1, H⟩ := H
  refine aw_callV (stk := []) (ci := 9) [.int x1, .int x2] 6 dX9_isWord_3 rfl mv_X9_151 ⟨by decide, by decide⟩ g1 (by intro r hr; cases hr; rfl) rfl rfl (by simp [Value.category]) (by decide) H ?_
  rintro _ h1 ⟨r1, rfl, H⟩
  refine aw_if_eq 32 9 dX9_isWord_6 rfl (by decide) (fun c2 => ?_) (fun c2 => ?_)
  · replace H := H.1 c2
    refine aw_iconst (v := 0) 33 dX9_isWord_32 rfl (by decide) ?_
    exact aw_zreturn dX9_isWord_33 rfl (by decide) (by decide) (by decide) ⟨_, rfl, H⟩
  · replace H := H.2 c2
    refine aw_iload_n 10 dX9_isWord_9 rfl rfl ?_
    refine aw_if_lt 32 13 dX9_isWord_10 rfl (by decide) (fun c3 => ?_) (fun c3 => ?_)
    · replace H := H.1 c3
      refine aw_iconst (v := 0) 33 dX9_isWord_32 rfl (by decide) ?_
      exact aw_zreturn dX9_isWord_33 rfl (by decide) (by decide) (by decide) ⟨_, rfl, H⟩
    · replace H := H.2 c3
      refine aw_iload_n 14 dX9_isWord_13 rfl rfl ?_
      refine aw_aload_n 15 dX9_isWord_14 rfl rfl ?_
      obtain ⟨g4, H⟩ := H
      obtain ⟨g5, H⟩ := H
      refine aw_getR 18 dX9_isWord_15 rfl fl_X9_37 ir_9_3 g4 rfl g5 ?_
      refine aw_iload_n 19 dX9_isWord_18 rfl rfl ?_
      obtain ⟨g6, H⟩ := H
      obtain ⟨g7, H⟩ := H
      obtain ⟨g8, H⟩ := H
      refine aw_aald 20 dX9_isWord_19 rfl (shp g6) (by decide) g7 rfl g8 ?_
      obtain ⟨g9, H⟩ := H
      obtain ⟨g10, H⟩ := H
      refine aw_getR 23 dX9_isWord_20 rfl fl_X9_155 ir_0_2 g9 rfl g10 ?_
      refine aw_iload_n 24 dX9_isWord_23 rfl rfl ?_
      obtain ⟨g11, H⟩ := H
      obtain ⟨g12, H⟩ := H
      refine aw_iald 25 dX9_isWord_24 rfl (Or.inl (shp g11)) g12 ?_
      refine aw_icmp_ge 32 28 dX9_isWord_25 rfl (by decide) (fun c13 => ?_) (fun c13 => ?_)
      · replace H := H.1 c13
        refine aw_iconst (v := 0) 33 dX9_isWord_32 rfl (by decide) ?_
        exact aw_zreturn dX9_isWord_33 rfl (by decide) (by decide) (by decide) ⟨_, rfl, H⟩
      · replace H := H.2 c13
        refine aw_iconst (v := 1) 29 dX9_isWord_28 rfl (by decide) ?_
        refine aw_goto 33 dX9_isWord_29 (by decide) ?_
        exact aw_zreturn dX9_isWord_33 rfl (by decide) (by decide) (by decide) ⟨_, rfl, H⟩
theorem eX9_isWord {w : Wd} {Q : Int32 → Hp → Prop} {h : Hp} {a0 : Nat} {x1 : Int32} {x2 : Int32} {x3 : Int32} (H : AW w mX9_isWord 0 0 (rI Q) 0 0 0 [some (.ref a0), some (.int x1), some (.int x2), some (.int x3)] [] h) : AC w mX9_isWord 0 0 (rI Q) [.ref a0, .int x1, .int x2, .int x3] h := AC.ofL (by decide) (by simp [enl, Value.category]) (by simp [leL, enl, Value.category]) H
set_option maxHeartbeats 4000000 in
set_option maxRecDepth 100000 in
theorem sX9_isKind_0 {w : Wd} {Q : Int32 → Hp → Prop} {h : Hp} {a0 : Nat} {x1 : Int32} {x2 : Int32} (H : ((x2 < 0 → Q 0 h) ∧ (¬ x2 < 0 → (hs h a0).1 = 29 ∧ hR h a0 3 ≠ 0 ∧ (hs h (hR h a0 3)).1 = 9 ∧ vp_in x1 (hs h (hR h a0 3)).2 ∧ hR h (hR h a0 3) x1.toNatClampNeg ≠ 0 ∧ (hs h (hR h (hR h a0 3) x1.toNatClampNeg)).1 = 20 ∧ hR h (hR h (hR h a0 3) x1.toNatClampNeg) 0 ≠ 0 ∧ (hs h (hR h (hR h (hR h a0 3) x1.toNatClampNeg) 0)).1 = 28 ∧ (((hI h (hR h (hR h (hR h a0 3) x1.toNatClampNeg) 0) 3) ≤ x2 → Q 0 h) ∧ (¬ (hI h (hR h (hR h (hR h a0 3) x1.toNatClampNeg) 0) 3) ≤ x2 → Q 1 h))))) : AW w mX9_isKind 0 0 (rI Q) 0 0 0 [some (.ref a0), some (.int x1), some (.int x2)] [] h := by
  refine aw_iload_n 1 dX9_isKind_0 rfl rfl ?_
  refine aw_if_lt 24 4 dX9_isKind_1 rfl (by decide) (fun c1 => ?_) (fun c1 => ?_)
  · replace H := H.1 c1
    refine aw_iconst (v := 0) 25 dX9_isKind_24 rfl (by decide) ?_
    exact aw_zreturn dX9_isKind_25 rfl (by decide) (by decide) (by decide) ⟨_, rfl, H⟩
  · replace H := H.2 c1
    refine aw_iload_n 5 dX9_isKind_4 rfl rfl ?_
    refine aw_aload_n 6 dX9_isKind_5 rfl rfl ?_
    obtain ⟨g2, H⟩ := H
    obtain ⟨g3, H⟩ := H
    refine aw_getR 9 dX9_isKind_6 rfl fl_X9_37 ir_9_3 g2 rfl g3 ?_
    refine aw_iload_n 10 dX9_isKind_9 rfl rfl ?_
    obtain ⟨g4, H⟩ := H
    obtain ⟨g5, H⟩ := H
    obtain ⟨g6, H⟩ := H
    refine aw_aald 11 dX9_isKind_10 rfl (shp g4) (by decide) g5 rfl g6 ?_
    obtain ⟨g7, H⟩ := H
    obtain ⟨g8, H⟩ := H
    refine aw_getR 14 dX9_isKind_11 rfl fl_X9_131 ir_0_0 g7 rfl g8 ?_
    obtain ⟨g9, H⟩ := H
    refine aw_getI 17 dX9_isKind_14 rfl fl_X9_116 (by decide) g9 ?_
    refine aw_icmp_ge 24 20 dX9_isKind_17 rfl (by decide) (fun c10 => ?_) (fun c10 => ?_)
    · replace H := H.1 c10
      refine aw_iconst (v := 0) 25 dX9_isKind_24 rfl (by decide) ?_
      exact aw_zreturn dX9_isKind_25 rfl (by decide) (by decide) (by decide) ⟨_, rfl, H⟩
    · replace H := H.2 c10
      refine aw_iconst (v := 1) 21 dX9_isKind_20 rfl (by decide) ?_
      refine aw_goto 25 dX9_isKind_21 (by decide) ?_
      exact aw_zreturn dX9_isKind_25 rfl (by decide) (by decide) (by decide) ⟨_, rfl, H⟩
theorem eX9_isKind {w : Wd} {Q : Int32 → Hp → Prop} {h : Hp} {a0 : Nat} {x1 : Int32} {x2 : Int32} (H : AW w mX9_isKind 0 0 (rI Q) 0 0 0 [some (.ref a0), some (.int x1), some (.int x2)] [] h) : AC w mX9_isKind 0 0 (rI Q) [.ref a0, .int x1, .int x2] h := AC.ofL (by decide) (by simp [enl, Value.category]) (by simp [leL, enl, Value.category]) H
set_option maxHeartbeats 4000000 in
set_option maxRecDepth 100000 in
theorem sX9_isSlot_0 {w : Wd} {Q : Int32 → Hp → Prop} {h : Hp} {x1 : Int32} (H : ((x1 < 0 → Q 0 h) ∧ (¬ x1 < 0 → ((8 ≤ x1 → Q 0 h) ∧ (¬ 8 ≤ x1 → Q 1 h))))) : AW w mX9_isSlot 0 0 (rI Q) 0 0 0 [none, some (.int x1)] [] h := by
  refine aw_iload_n 1 dX9_isSlot_0 rfl rfl ?_
  refine aw_if_lt 14 4 dX9_isSlot_1 rfl (by decide) (fun c1 => ?_) (fun c1 => ?_)
  · replace H := H.1 c1
    refine aw_iconst (v := 0) 15 dX9_isSlot_14 rfl (by decide) ?_
    exact aw_zreturn dX9_isSlot_15 rfl (by decide) (by decide) (by decide) ⟨_, rfl, H⟩
  · replace H := H.2 c1
    refine aw_iload_n 5 dX9_isSlot_4 rfl rfl ?_
    refine aw_bipush (v := 8) 7 dX9_isSlot_5 rfl (by decide) ?_
    refine aw_icmp_ge 14 10 dX9_isSlot_7 rfl (by decide) (fun c2 => ?_) (fun c2 => ?_)
    · replace H := H.1 c2
      refine aw_iconst (v := 0) 15 dX9_isSlot_14 rfl (by decide) ?_
      exact aw_zreturn dX9_isSlot_15 rfl (by decide) (by decide) (by decide) ⟨_, rfl, H⟩
    · replace H := H.2 c2
      refine aw_iconst (v := 1) 11 dX9_isSlot_10 rfl (by decide) ?_
      refine aw_goto 15 dX9_isSlot_11 (by decide) ?_
      exact aw_zreturn dX9_isSlot_15 rfl (by decide) (by decide) (by decide) ⟨_, rfl, H⟩
theorem eX9_isSlot {w : Wd} {Q : Int32 → Hp → Prop} {h : Hp} {a0 : Nat} {x1 : Int32} (H : AW w mX9_isSlot 0 0 (rI Q) 0 0 0 [none, some (.int x1)] [] h) : AC w mX9_isSlot 0 0 (rI Q) [.ref a0, .int x1] h := AC.ofL (by decide) (by simp [enl, Value.category]) (by simp [leL, enl, Value.category]) H
set_option maxHeartbeats 4000000 in
set_option maxRecDepth 100000 in
theorem sX9_layAnew_0 {w : Wd} {Q : Hp → Prop} {h : Hp} {a0 : Nat} (H : (hs h a0).1 = 29 ∧ (((hI h a0 11) = 0 → Q h) ∧ (¬ (hI h a0 11) = 0 → hR h a0 7 ≠ 0 ∧ (hs h (hR h a0 7)).1 = 27 ∧ AC w mX7_measure 0 0 (rV fun h1 => (hs h1 a0).1 = 29 ∧ hR h1 a0 7 ≠ 0 ∧ (hs h1 (hR h1 a0 7)).1 = 27 ∧ AC w mX7_fillCosts 0 0 (rV fun h2 => (hs h2 a0).1 = 29 ∧ hR h2 a0 7 ≠ 0 ∧ (hs h2 (hR h2 a0 7)).1 = 27 ∧ AC w mX7_choose 0 0 (rV fun h3 => (hs h3 a0).1 = 29 ∧ ∀ h4, h4 = sI h3 a0 11 0 → Q h4) [.ref (hR h2 a0 7)] h2) [.ref (hR h1 a0 7)] h1) [.ref (hR h a0 7)] h))) : AW w mX9_layAnew 0 0 (rV Q) 0 0 0 [some (.ref a0)] [] h := by
  refine aw_aload_n 1 dX9_layAnew_0 rfl rfl ?_
  obtain ⟨g1, H⟩ := H
  refine aw_getI 4 dX9_layAnew_1 rfl fl_X9_87 (by decide) g1 ?_
  refine aw_if_eq 33 7 dX9_layAnew_4 rfl (by decide) (fun c2 => ?_) (fun c2 => ?_)
  · replace H := H.1 c2
    exact aw_return dX9_layAnew_33 rfl (by decide) (by decide) ⟨rfl, H⟩
  · replace H := H.2 c2
    refine aw_aload_n 8 dX9_layAnew_7 rfl rfl ?_
    obtain ⟨g3, H⟩ := H
    refine aw_getR 11 dX9_layAnew_8 rfl fl_X9_64 ir_9_7 g1 rfl g3 ?_
    obtain ⟨g4, H⟩ := H
    refine aw_callV (stk := []) (ci := 7) [] 14 dX9_layAnew_11 rfl mv_X9_329 ⟨by decide, by decide⟩ g4 (by intro r hr; cases hr; rfl) rfl rfl (by simp [Value.category]) (by decide) H ?_
    rintro _ h1 ⟨rfl, H⟩
    refine aw_aload_n 15 dX9_layAnew_14 rfl rfl ?_
    obtain ⟨g5, H⟩ := H
    obtain ⟨g6, H⟩ := H
    refine aw_getR 18 dX9_layAnew_15 rfl fl_X9_64 ir_9_7 g5 rfl g6 ?_
    obtain ⟨g7, H⟩ := H
    refine aw_callV (stk := []) (ci := 7) [] 21 dX9_layAnew_18 rfl mv_X9_332 ⟨by decide, by decide⟩ g7 (by intro r hr; cases hr; rfl) rfl rfl (by simp [Value.category]) (by decide) H ?_
    rintro _ h2 ⟨rfl, H⟩
    refine aw_aload_n 22 dX9_layAnew_21 rfl rfl ?_
    obtain ⟨g8, H⟩ := H
    obtain ⟨g9, H⟩ := H
    refine aw_getR 25 dX9_layAnew_22 rfl fl_X9_64 ir_9_7 g8 rfl g9 ?_
    obtain ⟨g10, H⟩ := H
    refine aw_callV (stk := []) (ci := 7) [] 28 dX9_layAnew_25 rfl mv_X9_335 ⟨by decide, by decide⟩ g10 (by intro r hr; cases hr; rfl) rfl rfl (by simp [Value.category]) (by decide) H ?_
    rintro _ h3 ⟨rfl, H⟩
    refine aw_aload_n 29 dX9_layAnew_28 rfl rfl ?_
    refine aw_iconst (v := 0) 30 dX9_layAnew_29 rfl (by decide) ?_
    obtain ⟨g11, H⟩ := H
    refine aw_putZ 33 dX9_layAnew_30 rfl fl_X9_87 (by decide) (by decide) g11 nf_9_11 ?_
    replace H := H _ rfl
    exact aw_return dX9_layAnew_33 rfl (by decide) (by decide) ⟨rfl, H⟩
theorem eX9_layAnew {w : Wd} {Q : Hp → Prop} {h : Hp} {a0 : Nat} (H : AW w mX9_layAnew 0 0 (rV Q) 0 0 0 [some (.ref a0)] [] h) : AC w mX9_layAnew 0 0 (rV Q) [.ref a0] h := AC.ofL (by decide) (by simp [enl, Value.category]) (by simp [leL, enl, Value.category]) H
