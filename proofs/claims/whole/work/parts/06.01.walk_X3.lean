set_option maxHeartbeats 4000000 in
set_option maxRecDepth 100000 in
theorem sX3_goTogether_0 {w : Wd} {Q : Int32 → Hp → Prop} {h : Hp} {x0 : Int32} {x1 : Int32} {x2 : Int32} (H : ((x1 < 0 → AW w mX3_goTogether 0 0 (rI Q) 0 0 31 [some (.int x0), some (.int x1), some (.int x2), none] [.int 0] h) ∧ (¬ x1 < 0 → (hs h 1).1 = 4 ∧ vp_in x0 (hs h 1).2 ∧ (((hI h 1 x0.toNatClampNeg) ≤ x1 → AW w mX3_goTogether 0 0 (rI Q) 0 0 31 [some (.int x0), some (.int x1), some (.int x2), none] [.int 0] h) ∧ (¬ (hI h 1 x0.toNatClampNeg) ≤ x1 → ((x2 < 0 → AW w mX3_goTogether 0 0 (rI Q) 0 0 31 [some (.int x0), some (.int x1), some (.int x2), none] [.int 0] h) ∧ (¬ x2 < 0 → (hs h 2).1 = 4 ∧ vp_in x0 (hs h 2).2 ∧ (((hI h 2 x0.toNatClampNeg) ≤ x2 → AW w mX3_goTogether 0 0 (rI Q) 0 0 31 [some (.int x0), some (.int x1), some (.int x2), none] [.int 0] h) ∧ (¬ (hI h 2 x0.toNatClampNeg) ≤ x2 → AW w mX3_goTogether 0 0 (rI Q) 0 0 31 [some (.int x0), some (.int x1), some (.int x2), none] [.int 1] h))))))))) : AW w mX3_goTogether 0 0 (rI Q) 0 0 0 [some (.int x0), some (.int x1), some (.int x2), none] [] h := by
  refine aw_iload_n 1 dX3_goTogether_0 rfl rfl ?_
  refine aw_if_lt 30 4 dX3_goTogether_1 rfl (by decide) (fun c1 => ?_) (fun c1 => ?_)
  · replace H := H.1 c1
    refine aw_iconst (v := 0) 31 dX3_goTogether_30 rfl (by decide) ?_
    exact H
  · replace H := H.2 c1
    refine aw_iload_n 5 dX3_goTogether_4 rfl rfl ?_
    refine aw_getsN (j := 1) 8 dX3_goTogether_5 rfl (by decide) gs_X3_32 ?_
    refine aw_iload_n 9 dX3_goTogether_8 rfl rfl ?_
    obtain ⟨g2, H⟩ := H
    obtain ⟨g3, H⟩ := H
    refine aw_iald 10 dX3_goTogether_9 rfl (Or.inr (shp g2)) g3 ?_
    refine aw_icmp_ge 30 13 dX3_goTogether_10 rfl (by decide) (fun c4 => ?_) (fun c4 => ?_)
    · replace H := H.1 c4
      refine aw_iconst (v := 0) 31 dX3_goTogether_30 rfl (by decide) ?_
      exact H
    · replace H := H.2 c4
      refine aw_iload_n 14 dX3_goTogether_13 rfl rfl ?_
      refine aw_if_lt 30 17 dX3_goTogether_14 rfl (by decide) (fun c5 => ?_) (fun c5 => ?_)
      · replace H := H.1 c5
        refine aw_iconst (v := 0) 31 dX3_goTogether_30 rfl (by decide) ?_
        exact H
      · replace H := H.2 c5
        refine aw_iload_n 18 dX3_goTogether_17 rfl rfl ?_
        refine aw_getsN (j := 2) 21 dX3_goTogether_18 rfl (by decide) gs_X3_39 ?_
        refine aw_iload_n 22 dX3_goTogether_21 rfl rfl ?_
        obtain ⟨g6, H⟩ := H
        obtain ⟨g7, H⟩ := H
        refine aw_iald 23 dX3_goTogether_22 rfl (Or.inr (shp g6)) g7 ?_
        refine aw_icmp_ge 30 26 dX3_goTogether_23 rfl (by decide) (fun c8 => ?_) (fun c8 => ?_)
        · replace H := H.1 c8
          refine aw_iconst (v := 0) 31 dX3_goTogether_30 rfl (by decide) ?_
          exact H
        · replace H := H.2 c8
          refine aw_iconst (v := 1) 27 dX3_goTogether_26 rfl (by decide) ?_
          refine aw_goto 31 dX3_goTogether_27 (by decide) ?_
          exact H
theorem eX3_goTogether {w : Wd} {Q : Int32 → Hp → Prop} {h : Hp} {x0 : Int32} {x1 : Int32} {x2 : Int32} (H : AW w mX3_goTogether 0 0 (rI Q) 0 0 0 [some (.int x0), some (.int x1), some (.int x2), none] [] h) : AC w mX3_goTogether 0 0 (rI Q) [.int x0, .int x1, .int x2] h := AC.ofL (by decide) (by simp [enl, Value.category]) (by simp [leL, enl, Value.category]) H
set_option maxHeartbeats 4000000 in
set_option maxRecDepth 100000 in
theorem sX3_goTogether_31 {w : Wd} {Q : Int32 → Hp → Prop} {h : Hp} {x0 : Int32} {x1 : Int32} {x2 : Int32} {y0 : Int32} (H : ((y0 = 0 → Q 0 h) ∧ (¬ y0 = 0 → ((¬ x0 = 6 → Q 1 h) ∧ (x0 = 6 → ((x1 = x2 → Q 0 h) ∧ (¬ x1 = x2 → Q 1 h))))))) : AW w mX3_goTogether 0 0 (rI Q) 0 0 31 [some (.int x0), some (.int x1), some (.int x2), none] [.int y0] h := by
  refine aw_istore_n (loc' := [some (.int x0), some (.int x1), some (.int x2), some (.int y0)]) 32 dX3_goTogether_31 rfl (by decide) rfl ?_
  refine aw_iload_n 33 dX3_goTogether_32 rfl rfl ?_
  refine aw_if_eq 51 36 dX3_goTogether_33 rfl (by decide) (fun c1 => ?_) (fun c1 => ?_)
  · replace H := H.1 c1
    refine aw_iconst (v := 0) 52 dX3_goTogether_51 rfl (by decide) ?_
    exact aw_zreturn dX3_goTogether_52 rfl (by decide) (by decide) (by decide) ⟨_, rfl, H⟩
  · replace H := H.2 c1
    refine aw_iload_n 37 dX3_goTogether_36 rfl rfl ?_
    refine aw_bipush (v := 6) 39 dX3_goTogether_37 rfl (by decide) ?_
    refine aw_icmp_ne 47 42 dX3_goTogether_39 rfl (by decide) (fun c2 => ?_) (fun c2 => ?_)
    · replace H := H.1 c2
      refine aw_iconst (v := 1) 48 dX3_goTogether_47 rfl (by decide) ?_
      refine aw_goto 52 dX3_goTogether_48 (by decide) ?_
      exact aw_zreturn dX3_goTogether_52 rfl (by decide) (by decide) (by decide) ⟨_, rfl, H⟩
    · replace H := H.2 c2
      refine aw_iload_n 43 dX3_goTogether_42 rfl rfl ?_
      refine aw_iload_n 44 dX3_goTogether_43 rfl rfl ?_
      refine aw_icmp_eq 51 47 dX3_goTogether_44 rfl (by decide) (fun c3 => ?_) (fun c3 => ?_)
      · replace H := H.1 c3
        refine aw_iconst (v := 0) 52 dX3_goTogether_51 rfl (by decide) ?_
        exact aw_zreturn dX3_goTogether_52 rfl (by decide) (by decide) (by decide) ⟨_, rfl, H⟩
      · replace H := H.2 c3
        refine aw_iconst (v := 1) 48 dX3_goTogether_47 rfl (by decide) ?_
        refine aw_goto 52 dX3_goTogether_48 (by decide) ?_
        exact aw_zreturn dX3_goTogether_52 rfl (by decide) (by decide) (by decide) ⟨_, rfl, H⟩
set_option maxHeartbeats 4000000 in
set_option maxRecDepth 100000 in
theorem sX5_holdSentence_0 {w : Wd} {Q : Hp → Prop} {h : Hp} {a0 : Nat} {a1 : Nat} {x2 : Int32} (H : (hs h a0).1 = 25 ∧ ∀ h1, h1 = sI h a0 0 1 → ∀ h2, h2 = sI h1 a0 1 x2 → AW w mX5_holdSentence 0 0 (rV Q) 0 0 12 [some (.ref a0), some (.ref a1), some (.int x2), some (.int 0)] [] h2) : AW w mX5_holdSentence 0 0 (rV Q) 0 0 0 [some (.ref a0), some (.ref a1), some (.int x2), none] [] h := by
  refine aw_aload_n 1 dX5_holdSentence_0 rfl rfl ?_
  refine aw_iconst (v := 1) 2 dX5_holdSentence_1 rfl (by decide) ?_
  obtain ⟨g1, H⟩ := H
  refine aw_putI 5 dX5_holdSentence_2 rfl fl_X5_9 (by decide) g1 nf_5_0 ?_
  replace H := H _ rfl
  refine aw_aload_n 6 dX5_holdSentence_5 rfl rfl ?_
  refine aw_iload_n 7 dX5_holdSentence_6 rfl rfl ?_
  refine aw_putI 10 dX5_holdSentence_7 rfl fl_X5_19 (by decide) g1 nf_5_1 ?_
  replace H := H _ rfl
  refine aw_iconst (v := 0) 11 dX5_holdSentence_10 rfl (by decide) ?_
  refine aw_istore_n (loc' := [some (.ref a0), some (.ref a1), some (.int x2), some (.int 0)]) 12 dX5_holdSentence_11 rfl (by decide) rfl ?_
  exact H
theorem eX5_holdSentence {w : Wd} {Q : Hp → Prop} {h : Hp} {a0 : Nat} {a1 : Nat} {x2 : Int32} (H : AW w mX5_holdSentence 0 0 (rV Q) 0 0 0 [some (.ref a0), some (.ref a1), some (.int x2), none] [] h) : AC w mX5_holdSentence 0 0 (rV Q) [.ref a0, .ref a1, .int x2] h := AC.ofL (by decide) (by simp [enl, Value.category]) (by simp [leL, enl, Value.category]) H
set_option maxHeartbeats 4000000 in
set_option maxRecDepth 100000 in
theorem sX5_holdSentence_12 {w : Wd} {Q : Hp → Prop} {h : Hp} {a0 : Nat} {a1 : Nat} {x2 : Int32} {x3 : Int32} (H : ((x2 ≤ x3 → Q h) ∧ (¬ x2 ≤ x3 → (hs h a0).1 = 25 ∧ hR h a0 2 ≠ 0 ∧ (hs h a1).1 = 1 ∧ vp_in x3 (hs h a1).2 ∧ (hs h (hR h a0 2)).1 = 1 ∧ vp_in x3 (hs h (hR h a0 2)).2 ∧ ∀ h1, h1 = sI h (hR h a0 2) x3.toNatClampNeg (hI h a1 x3.toNatClampNeg) → AW w mX5_holdSentence 0 0 (rV Q) 0 0 12 [some (.ref a0), some (.ref a1), some (.int x2), some (.int (x3 + 1))] [] h1))) : AW w mX5_holdSentence 0 0 (rV Q) 0 0 12 [some (.ref a0), some (.ref a1), some (.int x2), some (.int x3)] [] h := by
  refine aw_iload_n 13 dX5_holdSentence_12 rfl rfl ?_
  refine aw_iload_n 14 dX5_holdSentence_13 rfl rfl ?_
  refine aw_icmp_ge 32 17 dX5_holdSentence_14 rfl (by decide) (fun c1 => ?_) (fun c1 => ?_)
  · replace H := H.1 c1
    exact aw_return dX5_holdSentence_32 rfl (by decide) (by decide) ⟨rfl, H⟩
  · replace H := H.2 c1
    refine aw_aload_n 18 dX5_holdSentence_17 rfl rfl ?_
    obtain ⟨g2, H⟩ := H
    obtain ⟨g3, H⟩ := H
    refine aw_getR 21 dX5_holdSentence_18 rfl fl_X5_15 ir_5_2 g2 rfl g3 ?_
    refine aw_iload_n 22 dX5_holdSentence_21 rfl rfl ?_
    refine aw_aload_n 23 dX5_holdSentence_22 rfl rfl ?_
    refine aw_iload_n 24 dX5_holdSentence_23 rfl rfl ?_
    obtain ⟨g4, H⟩ := H
    obtain ⟨g5, H⟩ := H
    refine aw_iald 25 dX5_holdSentence_24 rfl (Or.inl (shp g4)) g5 ?_
    obtain ⟨g6, H⟩ := H
    obtain ⟨g7, H⟩ := H
    refine aw_iast 26 dX5_holdSentence_25 rfl (shp g6) g7 ?_
    replace H := H _ rfl
    refine aw_iinc (y := 1) (loc' := [some (.ref a0), some (.ref a1), some (.int x2), some (.int (x3 + 1))]) 29 dX5_holdSentence_26 rfl (by decide) rfl (by decide) rfl ?_
    refine aw_goto 12 dX5_holdSentence_29 (by decide) ?_
    exact H
set_option maxHeartbeats 4000000 in
set_option maxRecDepth 100000 in
theorem sX5_holdJoint_0 {w : Wd} {Q : Hp → Prop} {h : Hp} {a0 : Nat} {x1 : Int32} {x2 : Int32} (H : (hs h a0).1 = 25 ∧ ∀ h1, h1 = sI h a0 0 2 → ∀ h2, h2 = sI h1 a0 1 0 → ∀ h3, h3 = sI h2 a0 3 x1 → ∀ h4, h4 = sI h3 a0 4 x2 → Q h4) : AW w mX5_holdJoint 0 0 (rV Q) 0 0 0 [some (.ref a0), some (.int x1), some (.int x2)] [] h := by
  refine aw_aload_n 1 dX5_holdJoint_0 rfl rfl ?_
  refine aw_iconst (v := 2) 2 dX5_holdJoint_1 rfl (by decide) ?_
  obtain ⟨g1, H⟩ := H
  refine aw_putI 5 dX5_holdJoint_2 rfl fl_X5_9 (by decide) g1 nf_5_0 ?_
  replace H := H _ rfl
  refine aw_aload_n 6 dX5_holdJoint_5 rfl rfl ?_
  refine aw_iconst (v := 0) 7 dX5_holdJoint_6 rfl (by decide) ?_
  refine aw_putI 10 dX5_holdJoint_7 rfl fl_X5_19 (by decide) g1 nf_5_1 ?_
  replace H := H _ rfl
  refine aw_aload_n 11 dX5_holdJoint_10 rfl rfl ?_
  refine aw_iload_n 12 dX5_holdJoint_11 rfl rfl ?_
  refine aw_putI 15 dX5_holdJoint_12 rfl fl_X5_22 (by decide) g1 nf_5_3 ?_
  replace H := H _ rfl
  refine aw_aload_n 16 dX5_holdJoint_15 rfl rfl ?_
  refine aw_iload_n 17 dX5_holdJoint_16 rfl rfl ?_
  refine aw_putI 20 dX5_holdJoint_17 rfl fl_X5_25 (by decide) g1 nf_5_4 ?_
  replace H := H _ rfl
  exact aw_return dX5_holdJoint_20 rfl (by decide) (by decide) ⟨rfl, H⟩
theorem eX5_holdJoint {w : Wd} {Q : Hp → Prop} {h : Hp} {a0 : Nat} {x1 : Int32} {x2 : Int32} (H : AW w mX5_holdJoint 0 0 (rV Q) 0 0 0 [some (.ref a0), some (.int x1), some (.int x2)] [] h) : AC w mX5_holdJoint 0 0 (rV Q) [.ref a0, .int x1, .int x2] h := AC.ofL (by decide) (by simp [enl, Value.category]) (by simp [leL, enl, Value.category]) H
set_option maxHeartbeats 4000000 in
set_option maxRecDepth 100000 in
theorem sX5_holdRow_0 {w : Wd} {Q : Hp → Prop} {h : Hp} {a0 : Nat} {x1 : Int32} (H : (hs h a0).1 = 25 ∧ ∀ h1, h1 = sI h a0 0 3 → ∀ h2, h2 = sI h1 a0 1 x1 → hR h a0 2 ≠ 0 ∧ AC w mJ7_fill_53178 0 0 (rV fun h3 => Q h3) [.ref (hR h a0 2), .int 0] h2) : AW w mX5_holdRow 0 0 (rV Q) 0 0 0 [some (.ref a0), some (.int x1)] [] h := by
  refine aw_aload_n 1 dX5_holdRow_0 rfl rfl ?_
  refine aw_iconst (v := 3) 2 dX5_holdRow_1 rfl (by decide) ?_
  obtain ⟨g1, H⟩ := H
  refine aw_putI 5 dX5_holdRow_2 rfl fl_X5_9 (by decide) g1 nf_5_0 ?_
  replace H := H _ rfl
  refine aw_aload_n 6 dX5_holdRow_5 rfl rfl ?_
  refine aw_iload_n 7 dX5_holdRow_6 rfl rfl ?_
  refine aw_putI 10 dX5_holdRow_7 rfl fl_X5_19 (by decide) g1 nf_5_1 ?_
  replace H := H _ rfl
  refine aw_aload_n 11 dX5_holdRow_10 rfl rfl ?_
  obtain ⟨g2, H⟩ := H
  refine aw_getR 14 dX5_holdRow_11 rfl fl_X5_15 ir_5_2 g1 rfl g2 ?_
  refine aw_iconst (v := 0) 15 dX5_holdRow_14 rfl (by decide) ?_
  refine aw_callS (stk := []) [.ref (hR h a0 2), .int 0] 18 dX5_holdRow_15 rfl mv_X5_28 ⟨by decide, by decide⟩ rfl rfl (by simp [Value.category]) (by decide) H ?_
  rintro _ h3 ⟨rfl, H⟩
  exact aw_return dX5_holdRow_18 rfl (by decide) (by decide) ⟨rfl, H⟩
theorem eX5_holdRow {w : Wd} {Q : Hp → Prop} {h : Hp} {a0 : Nat} {x1 : Int32} (H : AW w mX5_holdRow 0 0 (rV Q) 0 0 0 [some (.ref a0), some (.int x1)] [] h) : AC w mX5_holdRow 0 0 (rV Q) [.ref a0, .int x1] h := AC.ofL (by decide) (by simp [enl, Value.category]) (by simp [leL, enl, Value.category]) H
set_option maxHeartbeats 4000000 in
set_option maxRecDepth 100000 in
theorem sX5_copyFrom_0 {w : Wd} {Q : Int32 → Hp → Prop} {h : Hp} {a0 : Nat} {a1 : Nat} {x2 : Int32} (H : ((x2 < 0 → Q 0 h) ∧ (¬ x2 < 0 → (hs h a0).1 = 25 ∧ ((x2 < (hI h a0 1) → (hs h a1).1 = 25 ∧ AW w mX5_copyFrom 0 0 (rI Q) 0 0 31 [some (.ref a0), some (.ref a1), some (.int x2), some (.int (if ((hI h a0 1) - x2) < (hI h a1 1) then ((hI h a0 1) - x2) else (hI h a1 1))), some (.int 0)] [] h) ∧ (¬ x2 < (hI h a0 1) → Q 0 h))))) : AW w mX5_copyFrom 0 0 (rI Q) 0 0 0 [some (.ref a0), some (.ref a1), some (.int x2), none, none] [] h := by
  refine aw_iload_n 1 dX5_copyFrom_0 rfl rfl ?_
  refine aw_if_lt 12 4 dX5_copyFrom_1 rfl (by decide) (fun c1 => ?_) (fun c1 => ?_)
  · replace H := H.1 c1
    refine aw_iconst (v := 0) 13 dX5_copyFrom_12 rfl (by decide) ?_
    exact aw_ireturn dX5_copyFrom_13 rfl (by decide) (by decide) ⟨_, rfl, H⟩
  · replace H := H.2 c1
    refine aw_iload_n 5 dX5_copyFrom_4 rfl rfl ?_
    refine aw_aload_n 6 dX5_copyFrom_5 rfl rfl ?_
    obtain ⟨g2, H⟩ := H
    refine aw_getI 9 dX5_copyFrom_6 rfl fl_X5_19 (by decide) g2 ?_
    refine aw_icmp_lt 14 12 dX5_copyFrom_9 rfl (by decide) (fun c3 => ?_) (fun c3 => ?_)
    · replace H := H.1 c3
      refine aw_aload_n 15 dX5_copyFrom_14 rfl rfl ?_
      obtain ⟨g4, H⟩ := H
      refine aw_getI 18 dX5_copyFrom_15 rfl fl_X5_19 (by decide) g4 ?_
      refine aw_aload_n 19 dX5_copyFrom_18 rfl rfl ?_
      refine aw_getI 22 dX5_copyFrom_19 rfl fl_X5_19 (by decide) g2 ?_
      refine aw_iload_n 23 dX5_copyFrom_22 rfl rfl ?_
      refine aw_isub 24 dX5_copyFrom_23 rfl ?_
      refine aw_mmin (stk := []) 27 dX5_copyFrom_24 rfl mv_X5_34 (by decide) (by simp [Value.category]) (by decide) (by decide) ?_
      refine aw_istore_n (loc' := [some (.ref a0), some (.ref a1), some (.int x2), some (.int (if ((hI h a0 1) - x2) < (hI h a1 1) then ((hI h a0 1) - x2) else (hI h a1 1))), none]) 28 dX5_copyFrom_27 rfl (by decide) rfl ?_
      refine aw_iconst (v := 0) 29 dX5_copyFrom_28 rfl (by decide) ?_
      refine aw_istore (loc' := [some (.ref a0), some (.ref a1), some (.int x2), some (.int (if ((hI h a0 1) - x2) < (hI h a1 1) then ((hI h a0 1) - x2) else (hI h a1 1))), some (.int 0)]) 31 dX5_copyFrom_29 rfl (by decide) rfl ?_
      exact H
    · replace H := H.2 c3
      refine aw_iconst (v := 0) 13 dX5_copyFrom_12 rfl (by decide) ?_
      exact aw_ireturn dX5_copyFrom_13 rfl (by decide) (by decide) ⟨_, rfl, H⟩
theorem eX5_copyFrom {w : Wd} {Q : Int32 → Hp → Prop} {h : Hp} {a0 : Nat} {a1 : Nat} {x2 : Int32} (H : AW w mX5_copyFrom 0 0 (rI Q) 0 0 0 [some (.ref a0), some (.ref a1), some (.int x2), none, none] [] h) : AC w mX5_copyFrom 0 0 (rI Q) [.ref a0, .ref a1, .int x2] h := AC.ofL (by decide) (by simp [enl, Value.category]) (by simp [leL, enl, Value.category]) H
set_option maxHeartbeats 4000000 in
set_option maxRecDepth 100000 in
theorem sX5_copyFrom_31 {w : Wd} {Q : Int32 → Hp → Prop} {h : Hp} {a0 : Nat} {a1 : Nat} {x2 : Int32} {x3 : Int32} {x4 : Int32} (H : ((x3 ≤ x4 → Q x3 h) ∧ (¬ x3 ≤ x4 → (hs h a0).1 = 25 ∧ hR h a0 2 ≠ 0 ∧ (hs h a1).1 = 25 ∧ hR h a1 2 ≠ 0 ∧ (hs h (hR h a1 2)).1 = 1 ∧ vp_in x4 (hs h (hR h a1 2)).2 ∧ (hs h (hR h a0 2)).1 = 1 ∧ vp_in (x2 + x4) (hs h (hR h a0 2)).2 ∧ ∀ h1, h1 = sI h (hR h a0 2) (x2 + x4).toNatClampNeg (hI h (hR h a1 2) x4.toNatClampNeg) → AW w mX5_copyFrom 0 0 (rI Q) 0 0 31 [some (.ref a0), some (.ref a1), some (.int x2), some (.int x3), some (.int (x4 + 1))] [] h1))) : AW w mX5_copyFrom 0 0 (rI Q) 0 0 31 [some (.ref a0), some (.ref a1), some (.int x2), some (.int x3), some (.int x4)] [] h := by
  refine aw_iload 33 dX5_copyFrom_31 rfl rfl ?_
  refine aw_iload_n 34 dX5_copyFrom_33 rfl rfl ?_
  refine aw_icmp_ge 59 37 dX5_copyFrom_34 rfl (by decide) (fun c1 => ?_) (fun c1 => ?_)
  · replace H := H.1 c1
    refine aw_iload_n 60 dX5_copyFrom_59 rfl rfl ?_
    exact aw_ireturn dX5_copyFrom_60 rfl (by decide) (by decide) ⟨_, rfl, H⟩
  · replace H := H.2 c1
    refine aw_aload_n 38 dX5_copyFrom_37 rfl rfl ?_
    obtain ⟨g2, H⟩ := H
    obtain ⟨g3, H⟩ := H
    refine aw_getR 41 dX5_copyFrom_38 rfl fl_X5_15 ir_5_2 g2 rfl g3 ?_
    refine aw_iload_n 42 dX5_copyFrom_41 rfl rfl ?_
    refine aw_iload 44 dX5_copyFrom_42 rfl rfl ?_
    refine aw_iadd 45 dX5_copyFrom_44 rfl ?_
    refine aw_aload_n 46 dX5_copyFrom_45 rfl rfl ?_
    obtain ⟨g4, H⟩ := H
    obtain ⟨g5, H⟩ := H
    refine aw_getR 49 dX5_copyFrom_46 rfl fl_X5_15 ir_5_2 g4 rfl g5 ?_
    refine aw_iload 51 dX5_copyFrom_49 rfl rfl ?_
    obtain ⟨g6, H⟩ := H
    obtain ⟨g7, H⟩ := H
    refine aw_iald 52 dX5_copyFrom_51 rfl (Or.inl (shp g6)) g7 ?_
    obtain ⟨g8, H⟩ := H
    obtain ⟨g9, H⟩ := H
    refine aw_iast 53 dX5_copyFrom_52 rfl (shp g8) g9 ?_
    replace H := H _ rfl
    refine aw_iinc (y := 1) (loc' := [some (.ref a0), some (.ref a1), some (.int x2), some (.int x3), some (.int (x4 + 1))]) 56 dX5_copyFrom_53 rfl (by decide) rfl (by decide) rfl ?_
    refine aw_goto 31 dX5_copyFrom_56 (by decide) ?_
    exact H
set_option maxHeartbeats 4000000 in
set_option maxRecDepth 100000 in
theorem sX2_gather_0 {w : Wd} {Q : Hp → Prop} {h : Hp} {a0 : Nat} {x1 : Int32} (H : (hs h a0).1 = 22 ∧ hR h a0 1 ≠ 0 ∧ (hs h (hR h a0 1)).1 = 27 ∧ hR h (hR h a0 1) 13 ≠ 0 ∧ (hs h (hR h (hR h a0 1) 13)).1 = 1 ∧ vp_in x1 (hs h (hR h (hR h a0 1) 13)).2 ∧ hR h a0 0 ≠ 0 ∧ (hs h (hR h a0 0)).1 = 9 ∧ vp_in 0 (hs h (hR h a0 0)).2 ∧ hR h (hR h a0 0) (0 : Int32).toNatClampNeg ≠ 0 ∧ hR h (hR h a0 1) 14 ≠ 0 ∧ (hs h (hR h (hR h a0 1) 14)).1 = 1 ∧ vp_in x1 (hs h (hR h (hR h a0 1) 14)).2 ∧ (hs h 1).1 = 4 ∧ vp_in (hI h (hR h (hR h a0 1) 13) x1.toNatClampNeg) (hs h 1).2 ∧ hR h a0 3 ≠ 0 ∧ AC w mX2_gatherSide 0 0 (rI fun r1 h1 => (hs h1 a0).1 = 22 ∧ ∀ h2, h2 = sI h1 a0 5 r1 → hR h1 a0 0 ≠ 0 ∧ (hs h1 (hR h1 a0 0)).1 = 9 ∧ vp_in 1 (hs h1 (hR h1 a0 0)).2 ∧ hR h1 (hR h1 a0 0) (1 : Int32).toNatClampNeg ≠ 0 ∧ hR h1 a0 1 ≠ 0 ∧ (hs h1 (hR h1 a0 1)).1 = 27 ∧ hR h1 (hR h1 a0 1) 15 ≠ 0 ∧ (hs h1 (hR h1 (hR h1 a0 1) 15)).1 = 1 ∧ vp_in x1 (hs h1 (hR h1 (hR h1 a0 1) 15)).2 ∧ (hs h1 2).1 = 4 ∧ vp_in (hI h (hR h (hR h a0 1) 13) x1.toNatClampNeg) (hs h1 2).2 ∧ hR h1 a0 4 ≠ 0 ∧ AC w mX2_gatherSide 0 0 (rI fun r2 h3 => (hs h3 a0).1 = 22 ∧ ∀ h4, h4 = sI h3 a0 6 r2 → Q h4) [.ref (hR h1 (hR h1 a0 0) (1 : Int32).toNatClampNeg), .int (hI h2 (hR h1 (hR h1 a0 1) 15) x1.toNatClampNeg), .int (hI h2 2 (hI h (hR h (hR h a0 1) 13) x1.toNatClampNeg).toNatClampNeg), .ref (hR h1 a0 4)] h2) [.ref (hR h (hR h a0 0) (0 : Int32).toNatClampNeg), .int (hI h (hR h (hR h a0 1) 14) x1.toNatClampNeg), .int (hI h 1 (hI h (hR h (hR h a0 1) 13) x1.toNatClampNeg).toNatClampNeg), .ref (hR h a0 3)] h) : AW w mX2_gather 0 0 (rV Q) 0 0 0 [some (.ref a0), some (.int x1), none] [] h := by
  refine aw_aload_n 1 dX2_gather_0 rfl rfl ?_
  obtain ⟨g1, H⟩ := H
  obtain ⟨g2, H⟩ := H
  refine aw_getR 4 dX2_gather_1 rfl fl_X2_34 ir_2_1 g1 rfl g2 ?_
  obtain ⟨g3, H⟩ := H
  obtain ⟨g4, H⟩ := H
  refine aw_getR 7 dX2_gather_4 rfl fl_X2_42 ir_7_13 g3 rfl g4 ?_
  refine aw_iload_n 8 dX2_gather_7 rfl rfl ?_
  obtain ⟨g5, H⟩ := H
  obtain ⟨g6, H⟩ := H
  refine aw_iald 9 dX2_gather_8 rfl (Or.inl (shp g5)) g6 ?_
  refine aw_istore_n (loc' := [some (.ref a0), some (.int x1), some (.int (hI h (hR h (hR h a0 1) 13) x1.toNatClampNeg))]) 10 dX2_gather_9 rfl (by decide) rfl ?_
  refine aw_aload_n 11 dX2_gather_10 rfl rfl ?_
  refine aw_aload_n 12 dX2_gather_11 rfl rfl ?_
  obtain ⟨g7, H⟩ := H
  refine aw_getR 15 dX2_gather_12 rfl fl_X2_30 ir_2_0 g1 rfl g7 ?_
  refine aw_iconst (v := 0) 16 dX2_gather_15 rfl (by decide) ?_
  obtain ⟨g8, H⟩ := H
  obtain ⟨g9, H⟩ := H
  obtain ⟨g10, H⟩ := H
  refine aw_aald 17 dX2_gather_16 rfl (shp g8) (by decide) g9 rfl g10 ?_
  refine aw_aload_n 18 dX2_gather_17 rfl rfl ?_
  refine aw_getR 21 dX2_gather_18 rfl fl_X2_34 ir_2_1 g1 rfl g2 ?_
  obtain ⟨g11, H⟩ := H
  refine aw_getR 24 dX2_gather_21 rfl fl_X2_47 ir_7_14 g3 rfl g11 ?_
  refine aw_iload_n 25 dX2_gather_24 rfl rfl ?_
  obtain ⟨g12, H⟩ := H
  obtain ⟨g13, H⟩ := H
  refine aw_iald 26 dX2_gather_25 rfl (Or.inl (shp g12)) g13 ?_
  refine aw_getsN (j := 1) 29 dX2_gather_26 rfl (by decide) gs_X2_50 ?_
  refine aw_iload_n 30 dX2_gather_29 rfl rfl ?_
  obtain ⟨g14, H⟩ := H
  obtain ⟨g15, H⟩ := H
  refine aw_iald 31 dX2_gather_30 rfl (Or.inr (shp g14)) g15 ?_
  refine aw_aload_n 32 dX2_gather_31 rfl rfl ?_
  obtain ⟨g16, H⟩ := H
  refine aw_getR 35 dX2_gather_32 rfl fl_X2_9 ir_2_3 g1 rfl g16 ?_
  refine aw_callS (stk := [.ref a0]) [.ref (hR h (hR h a0 0) (0 : Int32).toNatClampNeg), .int (hI h (hR h (hR h a0 1) 14) x1.toNatClampNeg), .int (hI h 1 (hI h (hR h (hR h a0 1) 13) x1.toNatClampNeg).toNatClampNeg), .ref (hR h a0 3)] 38 dX2_gather_35 rfl mv_X2_53 ⟨by decide, by decide⟩ rfl rfl (by simp [Value.category]) (by decide) H ?_
  rintro _ h1 ⟨r1, rfl, H⟩
  obtain ⟨g17, H⟩ := H
  refine aw_putI 41 dX2_gather_38 rfl fl_X2_57 (by decide) g17 nf_2_5 ?_
  replace H := H _ rfl
  refine aw_aload_n 42 dX2_gather_41 rfl rfl ?_
  refine aw_aload_n 43 dX2_gather_42 rfl rfl ?_
  obtain ⟨g18, H⟩ := H
  refine aw_getR 46 dX2_gather_43 rfl fl_X2_30 ir_2_0 g17 rfl g18 ?_
  refine aw_iconst (v := 1) 47 dX2_gather_46 rfl (by decide) ?_
  obtain ⟨g19, H⟩ := H
  obtain ⟨g20, H⟩ := H
  obtain ⟨g21, H⟩ := H
  refine aw_aald 48 dX2_gather_47 rfl (shp g19) (by decide) g20 rfl g21 ?_
  refine aw_aload_n 49 dX2_gather_48 rfl rfl ?_
  obtain ⟨g22, H⟩ := H
  refine aw_getR 52 dX2_gather_49 rfl fl_X2_34 ir_2_1 g17 rfl g22 ?_
  obtain ⟨g23, H⟩ := H
  obtain ⟨g24, H⟩ := H
  refine aw_getR 55 dX2_gather_52 rfl fl_X2_61 ir_7_15 g23 rfl g24 ?_
  refine aw_iload_n 56 dX2_gather_55 rfl rfl ?_
  obtain ⟨g25, H⟩ := H
  obtain ⟨g26, H⟩ := H
  refine aw_iald 57 dX2_gather_56 rfl (Or.inl (shp g25)) g26 ?_
  refine aw_getsN (j := 2) 60 dX2_gather_57 rfl (by decide) gs_X2_64 ?_
  refine aw_iload_n 61 dX2_gather_60 rfl rfl ?_
  obtain ⟨g27, H⟩ := H
  obtain ⟨g28, H⟩ := H
  refine aw_iald 62 dX2_gather_61 rfl (Or.inr (shp g27)) g28 ?_
  refine aw_aload_n 63 dX2_gather_62 rfl rfl ?_
  obtain ⟨g29, H⟩ := H
  refine aw_getR 66 dX2_gather_63 rfl fl_X2_15 ir_2_4 g17 rfl g29 ?_
  refine aw_callS (stk := [.ref a0]) [.ref (hR h1 (hR h1 a0 0) (1 : Int32).toNatClampNeg), .int (hI (sI h1 a0 5 r1) (hR h1 (hR h1 a0 1) 15) x1.toNatClampNeg), .int (hI (sI h1 a0 5 r1) 2 (hI h (hR h (hR h a0 1) 13) x1.toNatClampNeg).toNatClampNeg), .ref (hR h1 a0 4)] 69 dX2_gather_66 rfl mv_X2_53 ⟨by decide, by decide⟩ rfl rfl (by simp [Value.category]) (by decide) H ?_
  rintro _ h3 ⟨r2, rfl, H⟩
  obtain ⟨g30, H⟩ := H
  refine aw_putI 72 dX2_gather_69 rfl fl_X2_67 (by decide) g30 nf_2_6 ?_
  replace H := H _ rfl
  exact aw_return dX2_gather_72 rfl (by decide) (by decide) ⟨rfl, H⟩
theorem eX2_gather {w : Wd} {Q : Hp → Prop} {h : Hp} {a0 : Nat} {x1 : Int32} (H : AW w mX2_gather 0 0 (rV Q) 0 0 0 [some (.ref a0), some (.int x1), none] [] h) : AC w mX2_gather 0 0 (rV Q) [.ref a0, .int x1] h := AC.ofL (by decide) (by simp [enl, Value.category]) (by simp [leL, enl, Value.category]) H
set_option maxHeartbeats 4000000 in
set_option maxRecDepth 100000 in
theorem sX2_gatherSide_0 {w : Wd} {Q : Int32 → Hp → Prop} {h : Hp} {a0 : Nat} {x1 : Int32} {x2 : Int32} {a3 : Nat} (H : AW w mX2_gatherSide 0 0 (rI Q) 0 0 6 [some (.ref a0), some (.int x1), some (.int x2), some (.ref a3), some (.int 0), some (.int x1), none] [] h) : AW w mX2_gatherSide 0 0 (rI Q) 0 0 0 [some (.ref a0), some (.int x1), some (.int x2), some (.ref a3), none, none, none] [] h := by
  refine aw_iconst (v := 0) 1 dX2_gatherSide_0 rfl (by decide) ?_
  refine aw_istore (loc' := [some (.ref a0), some (.int x1), some (.int x2), some (.ref a3), some (.int 0), none, none]) 3 dX2_gatherSide_1 rfl (by decide) rfl ?_
  refine aw_iload_n 4 dX2_gatherSide_3 rfl rfl ?_
  refine aw_istore (loc' := [some (.ref a0), some (.int x1), some (.int x2), some (.ref a3), some (.int 0), some (.int x1), none]) 6 dX2_gatherSide_4 rfl (by decide) rfl ?_
  exact H
theorem eX2_gatherSide {w : Wd} {Q : Int32 → Hp → Prop} {h : Hp} {a0 : Nat} {x1 : Int32} {x2 : Int32} {a3 : Nat} (H : AW w mX2_gatherSide 0 0 (rI Q) 0 0 0 [some (.ref a0), some (.int x1), some (.int x2), some (.ref a3), none, none, none] [] h) : AC w mX2_gatherSide 0 0 (rI Q) [.ref a0, .int x1, .int x2, .ref a3] h := AC.ofL (by decide) (by simp [enl, Value.category]) (by simp [leL, enl, Value.category]) H
set_option maxHeartbeats 4000000 in
set_option maxRecDepth 100000 in
theorem sX2_gatherSide_6 {w : Wd} {Q : Int32 → Hp → Prop} {h : Hp} {a0 : Nat} {x1 : Int32} {x2 : Int32} {a3 : Nat} {x4 : Int32} {x5 : Int32} (H : (((x1 + x2) ≤ x5 → Q x4 h) ∧ (¬ (x1 + x2) ≤ x5 → AW w mX2_gatherSide 0 0 (rI Q) 0 0 17 [some (.ref a0), some (.int x1), some (.int x2), some (.ref a3), some (.int x4), some (.int x5), some (.int 0)] [] h))) : AW w mX2_gatherSide 0 0 (rI Q) 0 0 6 [some (.ref a0), some (.int x1), some (.int x2), some (.ref a3), some (.int x4), some (.int x5), none] [] h := by
  refine aw_iload 8 dX2_gatherSide_6 rfl rfl ?_
  refine aw_iload_n 9 dX2_gatherSide_8 rfl rfl ?_
  refine aw_iload_n 10 dX2_gatherSide_9 rfl rfl ?_
  refine aw_iadd 11 dX2_gatherSide_10 rfl ?_
  refine aw_icmp_ge 65 14 dX2_gatherSide_11 rfl (by decide) (fun c1 => ?_) (fun c1 => ?_)
  · replace H := H.1 c1
    refine aw_iload 67 dX2_gatherSide_65 rfl rfl ?_
    exact aw_ireturn dX2_gatherSide_67 rfl (by decide) (by decide) ⟨_, rfl, H⟩
  · replace H := H.2 c1
    refine aw_iconst (v := 0) 15 dX2_gatherSide_14 rfl (by decide) ?_
    refine aw_istore (loc' := [some (.ref a0), some (.int x1), some (.int x2), some (.ref a3), some (.int x4), some (.int x5), some (.int 0)]) 17 dX2_gatherSide_15 rfl (by decide) rfl ?_
    exact H
set_option maxHeartbeats 4000000 in
set_option maxRecDepth 100000 in
theorem sX2_gatherSide_17 {w : Wd} {Q : Int32 → Hp → Prop} {h : Hp} {a0 : Nat} {x1 : Int32} {x2 : Int32} {a3 : Nat} {x4 : Int32} {x5 : Int32} {x6 : Int32} (H : (hs h a0).1 = 20 ∧ hR h a0 2 ≠ 0 ∧ (hs h (hR h a0 2)).1 = 1 ∧ vp_in x5 (hs h (hR h a0 2)).2 ∧ (((hI h (hR h a0 2) x5.toNatClampNeg) ≤ x6 → AW w mX2_gatherSide 0 0 (rI Q) 0 0 6 [some (.ref a0), some (.int x1), some (.int x2), some (.ref a3), some (.int x4), some (.int (x5 + 1)), none] [] h) ∧ (¬ (hI h (hR h a0 2) x5.toNatClampNeg) ≤ x6 → ((20 ≤ x4 → AW w mX2_gatherSide 0 0 (rI Q) 0 0 6 [some (.ref a0), some (.int x1), some (.int x2), some (.ref a3), some (.int x4), some (.int (x5 + 1)), none] [] h) ∧ (¬ 20 ≤ x4 → hR h a0 1 ≠ 0 ∧ (hs h (hR h a0 1)).1 = 6 ∧ vp_in x5 (hs h (hR h a0 1)).2 ∧ hR h (hR h a0 1) x5.toNatClampNeg ≠ 0 ∧ (hs h (hR h (hR h a0 1) x5.toNatClampNeg)).1 = 1 ∧ vp_in x6 (hs h (hR h (hR h a0 1) x5.toNatClampNeg)).2 ∧ (hs h a3).1 = 1 ∧ vp_in x4 (hs h a3).2 ∧ ∀ h1, h1 = sI h a3 x4.toNatClampNeg (hI h (hR h (hR h a0 1) x5.toNatClampNeg) x6.toNatClampNeg) → AW w mX2_gatherSide 0 0 (rI Q) 0 0 17 [some (.ref a0), some (.int x1), some (.int x2), some (.ref a3), some (.int (x4 + 1)), some (.int x5), some (.int (x6 + 1))] [] h1))))) : AW w mX2_gatherSide 0 0 (rI Q) 0 0 17 [some (.ref a0), some (.int x1), some (.int x2), some (.ref a3), some (.int x4), some (.int x5), some (.int x6)] [] h := by
  refine aw_iload 19 dX2_gatherSide_17 rfl rfl ?_
  refine aw_aload_n 20 dX2_gatherSide_19 rfl rfl ?_
  obtain ⟨g1, H⟩ := H
  obtain ⟨g2, H⟩ := H
  refine aw_getR 23 dX2_gatherSide_20 rfl fl_X2_70 ir_0_2 g1 rfl g2 ?_
  refine aw_iload 25 dX2_gatherSide_23 rfl rfl ?_
  obtain ⟨g3, H⟩ := H
  obtain ⟨g4, H⟩ := H
  refine aw_iald 26 dX2_gatherSide_25 rfl (Or.inl (shp g3)) g4 ?_
  refine aw_icmp_ge 59 29 dX2_gatherSide_26 rfl (by decide) (fun c5 => ?_) (fun c5 => ?_)
  · replace H := H.1 c5
    refine aw_iinc (y := 1) (loc' := [some (.ref a0), some (.int x1), some (.int x2), some (.ref a3), some (.int x4), some (.int (x5 + 1)), some (.int x6)]) 62 dX2_gatherSide_59 rfl (by decide) rfl (by decide) rfl ?_
    refine aw_goto 6 dX2_gatherSide_62 (by decide) ?_
    exact aw_fgt (by simp [leL]) H
  · replace H := H.2 c5
    refine aw_iload 31 dX2_gatherSide_29 rfl rfl ?_
    refine aw_bipush (v := 20) 33 dX2_gatherSide_31 rfl (by decide) ?_
    refine aw_icmp_ge 59 36 dX2_gatherSide_33 rfl (by decide) (fun c6 => ?_) (fun c6 => ?_)
    · replace H := H.1 c6
      refine aw_iinc (y := 1) (loc' := [some (.ref a0), some (.int x1), some (.int x2), some (.ref a3), some (.int x4), some (.int (x5 + 1)), some (.int x6)]) 62 dX2_gatherSide_59 rfl (by decide) rfl (by decide) rfl ?_
      refine aw_goto 6 dX2_gatherSide_62 (by decide) ?_
      exact aw_fgt (by simp [leL]) H
    · replace H := H.2 c6
      refine aw_aload_n 37 dX2_gatherSide_36 rfl rfl ?_
      refine aw_iload 39 dX2_gatherSide_37 rfl rfl ?_
      refine aw_aload_n 40 dX2_gatherSide_39 rfl rfl ?_
      obtain ⟨g7, H⟩ := H
      refine aw_getR 43 dX2_gatherSide_40 rfl fl_X2_75 ir_0_1 g1 rfl g7 ?_
      refine aw_iload 45 dX2_gatherSide_43 rfl rfl ?_
      obtain ⟨g8, H⟩ := H
      obtain ⟨g9, H⟩ := H
      obtain ⟨g10, H⟩ := H
      refine aw_aald 46 dX2_gatherSide_45 rfl (shp g8) (by decide) g9 rfl g10 ?_
      refine aw_iload 48 dX2_gatherSide_46 rfl rfl ?_
      obtain ⟨g11, H⟩ := H
      obtain ⟨g12, H⟩ := H
      refine aw_iald 49 dX2_gatherSide_48 rfl (Or.inl (shp g11)) g12 ?_
      obtain ⟨g13, H⟩ := H
      obtain ⟨g14, H⟩ := H
      refine aw_iast 50 dX2_gatherSide_49 rfl (shp g13) g14 ?_
      replace H := H _ rfl
      refine aw_iinc (y := 1) (loc' := [some (.ref a0), some (.int x1), some (.int x2), some (.ref a3), some (.int (x4 + 1)), some (.int x5), some (.int x6)]) 53 dX2_gatherSide_50 rfl (by decide) rfl (by decide) rfl ?_
      refine aw_iinc (y := 1) (loc' := [some (.ref a0), some (.int x1), some (.int x2), some (.ref a3), some (.int (x4 + 1)), some (.int x5), some (.int (x6 + 1))]) 56 dX2_gatherSide_53 rfl (by decide) rfl (by decide) rfl ?_
      refine aw_goto 17 dX2_gatherSide_56 (by decide) ?_
      exact H
set_option maxHeartbeats 4000000 in
set_option maxRecDepth 100000 in
theorem sX2_hasLeft_0 {w : Wd} {Q : Int32 → Hp → Prop} {h : Hp} {a0 : Nat} {x1 : Int32} (H : ((x1 < 0 → Q 0 h) ∧ (¬ x1 < 0 → (hs h a0).1 = 22 ∧ (((hI h a0 5) ≤ x1 → Q 0 h) ∧ (¬ (hI h a0 5) ≤ x1 → Q 1 h))))) : AW w mX2_hasLeft 0 0 (rI Q) 0 0 0 [some (.ref a0), some (.int x1)] [] h := by
  refine aw_iload_n 1 dX2_hasLeft_0 rfl rfl ?_
  refine aw_if_lt 16 4 dX2_hasLeft_1 rfl (by decide) (fun c1 => ?_) (fun c1 => ?_)
  · replace H := H.1 c1
    refine aw_iconst (v := 0) 17 dX2_hasLeft_16 rfl (by decide) ?_
    exact aw_zreturn dX2_hasLeft_17 rfl (by decide) (by decide) (by decide) ⟨_, rfl, H⟩
  · replace H := H.2 c1
    refine aw_iload_n 5 dX2_hasLeft_4 rfl rfl ?_
    refine aw_aload_n 6 dX2_hasLeft_5 rfl rfl ?_
    obtain ⟨g2, H⟩ := H
    refine aw_getI 9 dX2_hasLeft_6 rfl fl_X2_57 (by decide) g2 ?_
    refine aw_icmp_ge 16 12 dX2_hasLeft_9 rfl (by decide) (fun c3 => ?_) (fun c3 => ?_)
    · replace H := H.1 c3
      refine aw_iconst (v := 0) 17 dX2_hasLeft_16 rfl (by decide) ?_
      exact aw_zreturn dX2_hasLeft_17 rfl (by decide) (by decide) (by decide) ⟨_, rfl, H⟩
    · replace H := H.2 c3
      refine aw_iconst (v := 1) 13 dX2_hasLeft_12 rfl (by decide) ?_
      refine aw_goto 17 dX2_hasLeft_13 (by decide) ?_
      exact aw_zreturn dX2_hasLeft_17 rfl (by decide) (by decide) (by decide) ⟨_, rfl, H⟩
theorem eX2_hasLeft {w : Wd} {Q : Int32 → Hp → Prop} {h : Hp} {a0 : Nat} {x1 : Int32} (H : AW w mX2_hasLeft 0 0 (rI Q) 0 0 0 [some (.ref a0), some (.int x1)] [] h) : AC w mX2_hasLeft 0 0 (rI Q) [.ref a0, .int x1] h := AC.ofL (by decide) (by simp [enl, Value.category]) (by simp [leL, enl, Value.category]) H
set_option maxHeartbeats 4000000 in
set_option maxRecDepth 100000 in
theorem sX2_hasRight_0 {w : Wd} {Q : Int32 → Hp → Prop} {h : Hp} {a0 : Nat} {x1 : Int32} (H : ((x1 < 0 → Q 0 h) ∧ (¬ x1 < 0 → (hs h a0).1 = 22 ∧ (((hI h a0 6) ≤ x1 → Q 0 h) ∧ (¬ (hI h a0 6) ≤ x1 → Q 1 h))))) : AW w mX2_hasRight 0 0 (rI Q) 0 0 0 [some (.ref a0), some (.int x1)] [] h := by
  refine aw_iload_n 1 dX2_hasRight_0 rfl rfl ?_
  refine aw_if_lt 16 4 dX2_hasRight_1 rfl (by decide) (fun c1 => ?_) (fun c1 => ?_)
  · replace H := H.1 c1
    refine aw_iconst (v := 0) 17 dX2_hasRight_16 rfl (by decide) ?_
    exact aw_zreturn dX2_hasRight_17 rfl (by decide) (by decide) (by decide) ⟨_, rfl, H⟩
  · replace H := H.2 c1
    refine aw_iload_n 5 dX2_hasRight_4 rfl rfl ?_
    refine aw_aload_n 6 dX2_hasRight_5 rfl rfl ?_
    obtain ⟨g2, H⟩ := H
    refine aw_getI 9 dX2_hasRight_6 rfl fl_X2_67 (by decide) g2 ?_
    refine aw_icmp_ge 16 12 dX2_hasRight_9 rfl (by decide) (fun c3 => ?_) (fun c3 => ?_)
    · replace H := H.1 c3
      refine aw_iconst (v := 0) 17 dX2_hasRight_16 rfl (by decide) ?_
      exact aw_zreturn dX2_hasRight_17 rfl (by decide) (by decide) (by decide) ⟨_, rfl, H⟩
    · replace H := H.2 c3
      refine aw_iconst (v := 1) 13 dX2_hasRight_12 rfl (by decide) ?_
      refine aw_goto 17 dX2_hasRight_13 (by decide) ?_
      exact aw_zreturn dX2_hasRight_17 rfl (by decide) (by decide) (by decide) ⟨_, rfl, H⟩
theorem eX2_hasRight {w : Wd} {Q : Int32 → Hp → Prop} {h : Hp} {a0 : Nat} {x1 : Int32} (H : AW w mX2_hasRight 0 0 (rI Q) 0 0 0 [some (.ref a0), some (.int x1)] [] h) : AC w mX2_hasRight 0 0 (rI Q) [.ref a0, .int x1] h := AC.ofL (by decide) (by simp [enl, Value.category]) (by simp [leL, enl, Value.category]) H
set_option maxHeartbeats 4000000 in
set_option maxRecDepth 100000 in
theorem sX2_work_0 {w : Wd} {Q : Hp → Prop} {h : Hp} {a0 : Nat} (H : AW w mX2_work 0 0 (rV Q) 0 0 2 [some (.ref a0), some (.int 0), none] [] h) : AW w mX2_work 0 0 (rV Q) 0 0 0 [some (.ref a0), none, none] [] h := by
  refine aw_iconst (v := 0) 1 dX2_work_0 rfl (by decide) ?_
  refine aw_istore_n (loc' := [some (.ref a0), some (.int 0), none]) 2 dX2_work_1 rfl (by decide) rfl ?_
  exact H
theorem eX2_work {w : Wd} {Q : Hp → Prop} {h : Hp} {a0 : Nat} (H : AW w mX2_work 0 0 (rV Q) 0 0 0 [some (.ref a0), none, none] [] h) : AC w mX2_work 0 0 (rV Q) [.ref a0] h := AC.ofL (by decide) (by simp [enl, Value.category]) (by simp [leL, enl, Value.category]) H
set_option maxHeartbeats 4000000 in
set_option maxRecDepth 100000 in
theorem sX2_work_2 {w : Wd} {Q : Hp → Prop} {h : Hp} {a0 : Nat} {x1 : Int32} (H : (hs h a0).1 = 22 ∧ (((hI h a0 5) ≤ x1 → AW w mX2_work 0 0 (rV Q) 0 0 36 [some (.ref a0), some (.int 0), none] [] h) ∧ (¬ (hI h a0 5) ≤ x1 → hR h a0 7 ≠ 0 ∧ AC w mX2_leadFromLeft 0 0 (rI fun r1 h1 => (hs h1 (hR h a0 7)).1 = 1 ∧ vp_in x1 (hs h1 (hR h a0 7)).2 ∧ ∀ h2, h2 = sI h1 (hR h a0 7) x1.toNatClampNeg r1 → (hs h1 a0).1 = 22 ∧ hR h1 a0 9 ≠ 0 ∧ (hs h1 (hR h1 a0 9)).1 = 1 ∧ vp_in x1 (hs h1 (hR h1 a0 9)).2 ∧ ∀ h3, h3 = sI h2 (hR h1 a0 9) x1.toNatClampNeg 0 → AW w mX2_work 0 0 (rV Q) 0 0 2 [some (.ref a0), some (.int (x1 + 1)), none] [] h3) [.ref a0, .int x1] h))) : AW w mX2_work 0 0 (rV Q) 0 0 2 [some (.ref a0), some (.int x1), none] [] h := by
  refine aw_iload_n 3 dX2_work_2 rfl rfl ?_
  refine aw_aload_n 4 dX2_work_3 rfl rfl ?_
  obtain ⟨g1, H⟩ := H
  refine aw_getI 7 dX2_work_4 rfl fl_X2_57 (by decide) g1 ?_
  refine aw_icmp_ge 34 10 dX2_work_7 rfl (by decide) (fun c2 => ?_) (fun c2 => ?_)
  · replace H := H.1 c2
    refine aw_iconst (v := 0) 35 dX2_work_34 rfl (by decide) ?_
    refine aw_istore_n (loc' := [some (.ref a0), some (.int 0), none]) 36 dX2_work_35 rfl (by decide) rfl ?_
    exact H
  · replace H := H.2 c2
    refine aw_aload_n 11 dX2_work_10 rfl rfl ?_
    obtain ⟨g3, H⟩ := H
    refine aw_getR 14 dX2_work_11 rfl fl_X2_18 ir_2_7 g1 rfl g3 ?_
    refine aw_iload_n 15 dX2_work_14 rfl rfl ?_
    refine aw_aload_n 16 dX2_work_15 rfl rfl ?_
    refine aw_iload_n 17 dX2_work_16 rfl rfl ?_
    refine aw_callV (stk := [.int x1, .ref (hR h a0 7)]) (ci := 2) [.int x1] 20 dX2_work_17 rfl mv_X2_79 ⟨by decide, by decide⟩ g1 (by intro r hr; cases hr; rfl) rfl rfl (by simp [Value.category]) (by decide) H ?_
    rintro _ h1 ⟨r1, rfl, H⟩
    obtain ⟨g4, H⟩ := H
    obtain ⟨g5, H⟩ := H
    refine aw_iast 21 dX2_work_20 rfl (shp g4) g5 ?_
    replace H := H _ rfl
    refine aw_aload_n 22 dX2_work_21 rfl rfl ?_
    obtain ⟨g6, H⟩ := H
    obtain ⟨g7, H⟩ := H
    refine aw_getR 25 dX2_work_22 rfl fl_X2_24 ir_2_9 g6 rfl g7 ?_
    refine aw_iload_n 26 dX2_work_25 rfl rfl ?_
    refine aw_iconst (v := 0) 27 dX2_work_26 rfl (by decide) ?_
    obtain ⟨g8, H⟩ := H
    obtain ⟨g9, H⟩ := H
    refine aw_iast 28 dX2_work_27 rfl (shp g8) g9 ?_
    replace H := H _ rfl
    refine aw_iinc (y := 1) (loc' := [some (.ref a0), some (.int (x1 + 1)), none]) 31 dX2_work_28 rfl (by decide) rfl (by decide) rfl ?_
    refine aw_goto 2 dX2_work_31 (by decide) ?_
    exact H
set_option maxHeartbeats 4000000 in
set_option maxRecDepth 100000 in
theorem sX2_work_36 {w : Wd} {Q : Hp → Prop} {h : Hp} {a0 : Nat} {x1 : Int32} (H : (hs h a0).1 = 22 ∧ (((hI h a0 6) ≤ x1 → AC w mX2_growBoth 0 0 (rV fun h1 => AW w mX2_work 0 0 (rV Q) 0 0 76 [some (.ref a0), some (.int 1), some (.int 0)] [] h1) [.ref a0] h) ∧ (¬ (hI h a0 6) ≤ x1 → hR h a0 8 ≠ 0 ∧ AC w mX2_leadFromRight 0 0 (rI fun r2 h2 => (hs h2 (hR h a0 8)).1 = 1 ∧ vp_in x1 (hs h2 (hR h a0 8)).2 ∧ ∀ h3, h3 = sI h2 (hR h a0 8) x1.toNatClampNeg r2 → (hs h2 a0).1 = 22 ∧ hR h2 a0 10 ≠ 0 ∧ (hs h2 (hR h2 a0 10)).1 = 1 ∧ vp_in x1 (hs h2 (hR h2 a0 10)).2 ∧ ∀ h4, h4 = sI h3 (hR h2 a0 10) x1.toNatClampNeg 0 → AW w mX2_work 0 0 (rV Q) 0 0 36 [some (.ref a0), some (.int (x1 + 1)), none] [] h4) [.ref a0, .int x1] h))) : AW w mX2_work 0 0 (rV Q) 0 0 36 [some (.ref a0), some (.int x1), none] [] h := by
  refine aw_iload_n 37 dX2_work_36 rfl rfl ?_
  refine aw_aload_n 38 dX2_work_37 rfl rfl ?_
  obtain ⟨g1, H⟩ := H
  refine aw_getI 41 dX2_work_38 rfl fl_X2_67 (by decide) g1 ?_
  refine aw_icmp_ge 68 44 dX2_work_41 rfl (by decide) (fun c2 => ?_) (fun c2 => ?_)
  · replace H := H.1 c2
    refine aw_aload_n 69 dX2_work_68 rfl rfl ?_
    refine aw_callV (stk := []) (ci := 2) [] 72 dX2_work_69 rfl mv_X2_86 ⟨by decide, by decide⟩ g1 (by intro r hr; cases hr; rfl) rfl rfl (by simp [Value.category]) (by decide) H ?_
    rintro _ h1 ⟨rfl, H⟩
    refine aw_iconst (v := 1) 73 dX2_work_72 rfl (by decide) ?_
    refine aw_istore_n (loc' := [some (.ref a0), some (.int 1), none]) 74 dX2_work_73 rfl (by decide) rfl ?_
    refine aw_iconst (v := 0) 75 dX2_work_74 rfl (by decide) ?_
    refine aw_istore_n (loc' := [some (.ref a0), some (.int 1), some (.int 0)]) 76 dX2_work_75 rfl (by decide) rfl ?_
    exact H
  · replace H := H.2 c2
    refine aw_aload_n 45 dX2_work_44 rfl rfl ?_
    obtain ⟨g3, H⟩ := H
    refine aw_getR 48 dX2_work_45 rfl fl_X2_21 ir_2_8 g1 rfl g3 ?_
    refine aw_iload_n 49 dX2_work_48 rfl rfl ?_
    refine aw_aload_n 50 dX2_work_49 rfl rfl ?_
    refine aw_iload_n 51 dX2_work_50 rfl rfl ?_
    refine aw_callV (stk := [.int x1, .ref (hR h a0 8)]) (ci := 2) [.int x1] 54 dX2_work_51 rfl mv_X2_83 ⟨by decide, by decide⟩ g1 (by intro r hr; cases hr; rfl) rfl rfl (by simp [Value.category]) (by decide) H ?_
    rintro _ h2 ⟨r2, rfl, H⟩
    obtain ⟨g4, H⟩ := H
    obtain ⟨g5, H⟩ := H
    refine aw_iast 55 dX2_work_54 rfl (shp g4) g5 ?_
    replace H := H _ rfl
    refine aw_aload_n 56 dX2_work_55 rfl rfl ?_
    obtain ⟨g6, H⟩ := H
    obtain ⟨g7, H⟩ := H
    refine aw_getR 59 dX2_work_56 rfl fl_X2_27 ir_2_10 g6 rfl g7 ?_
    refine aw_iload_n 60 dX2_work_59 rfl rfl ?_
    refine aw_iconst (v := 0) 61 dX2_work_60 rfl (by decide) ?_
    obtain ⟨g8, H⟩ := H
    obtain ⟨g9, H⟩ := H
    refine aw_iast 62 dX2_work_61 rfl (shp g8) g9 ?_
    replace H := H _ rfl
    refine aw_iinc (y := 1) (loc' := [some (.ref a0), some (.int (x1 + 1)), none]) 65 dX2_work_62 rfl (by decide) rfl (by decide) rfl ?_
    refine aw_goto 36 dX2_work_65 (by decide) ?_
    exact H
set_option maxHeartbeats 4000000 in
set_option maxRecDepth 100000 in
theorem sX2_work_76 {w : Wd} {Q : Hp → Prop} {h : Hp} {a0 : Nat} {x1 : Int32} {x2 : Int32} (H : ((x1 = 0 → Q h) ∧ (¬ x1 = 0 → ((400 ≤ x2 → Q h) ∧ (¬ 400 ≤ x2 → (hs h a0).1 = 22 ∧ AC w mX2_growOnce 0 0 (rI fun r1 h1 => AW w mX2_work 0 0 (rV Q) 0 0 76 [some (.ref a0), some (.int r1), some (.int (x2 + 1))] [] h1) [.ref a0] h))))) : AW w mX2_work 0 0 (rV Q) 0 0 76 [some (.ref a0), some (.int x1), some (.int x2)] [] h := by
  refine aw_iload_n 77 dX2_work_76 rfl rfl ?_
  refine aw_if_eq 98 80 dX2_work_77 rfl (by decide) (fun c1 => ?_) (fun c1 => ?_)
  · replace H := H.1 c1
    exact aw_return dX2_work_98 rfl (by decide) (by decide) ⟨rfl, H⟩
  · replace H := H.2 c1
    refine aw_iload_n 81 dX2_work_80 rfl rfl ?_
    refine aw_sipush (v := 400) 84 dX2_work_81 rfl (by decide) ?_
    refine aw_icmp_ge 98 87 dX2_work_84 rfl (by decide) (fun c2 => ?_) (fun c2 => ?_)
    · replace H := H.1 c2
      exact aw_return dX2_work_98 rfl (by decide) (by decide) ⟨rfl, H⟩
    · replace H := H.2 c2
      refine aw_aload_n 88 dX2_work_87 rfl rfl ?_
      obtain ⟨g3, H⟩ := H
      refine aw_callV (stk := []) (ci := 2) [] 91 dX2_work_88 rfl mv_X2_89 ⟨by decide, by decide⟩ g3 (by intro r hr; cases hr; rfl) rfl rfl (by simp [Value.category]) (by decide) H ?_
      rintro _ h1 ⟨r1, rfl, H⟩
      refine aw_istore_n (loc' := [some (.ref a0), some (.int r1), some (.int x2)]) 92 dX2_work_91 rfl (by decide) rfl ?_
      refine aw_iinc (y := 1) (loc' := [some (.ref a0), some (.int r1), some (.int (x2 + 1))]) 95 dX2_work_92 rfl (by decide) rfl (by decide) rfl ?_
      refine aw_goto 76 dX2_work_95 (by decide) ?_
      exact H
set_option maxHeartbeats 4000000 in
set_option maxRecDepth 100000 in
theorem sX2_leadFromLeft_0 {w : Wd} {Q : Int32 → Hp → Prop} {h : Hp} {a0 : Nat} {x1 : Int32} (H : (hs h a0).1 = 22 ∧ hR h a0 2 ≠ 0 ∧ (hs h (hR h a0 2)).1 = 24 ∧ hR h (hR h a0 2) 0 ≠ 0 ∧ hR h a0 3 ≠ 0 ∧ (hs h (hR h a0 3)).1 = 1 ∧ vp_in x1 (hs h (hR h a0 3)).2 ∧ (hs h (hR h (hR h a0 2) 0)).1 = 6 ∧ vp_in (hI h (hR h a0 3) x1.toNatClampNeg) (hs h (hR h (hR h a0 2) 0)).2 ∧ hR h (hR h (hR h a0 2) 0) (hI h (hR h a0 3) x1.toNatClampNeg).toNatClampNeg ≠ 0 ∧ (hs h (hR h (hR h (hR h a0 2) 0) (hI h (hR h a0 3) x1.toNatClampNeg).toNatClampNeg)).1 = 1 ∧ vp_in 40 (hs h (hR h (hR h (hR h a0 2) 0) (hI h (hR h a0 3) x1.toNatClampNeg).toNatClampNeg)).2 ∧ AW w mX2_leadFromLeft 0 0 (rI Q) 0 0 23 [some (.ref a0), some (.int x1), some (.int (-1)), some (.int (hI h (hR h (hR h (hR h a0 2) 0) (hI h (hR h a0 3) x1.toNatClampNeg).toNatClampNeg) (40 : Int32).toNatClampNeg)), some (.int 0), none] [] h) : AW w mX2_leadFromLeft 0 0 (rI Q) 0 0 0 [some (.ref a0), some (.int x1), none, none, none, none] [] h := by
  refine aw_iconst (v := (-1)) 1 dX2_leadFromLeft_0 rfl (by decide) ?_
  refine aw_istore_n (loc' := [some (.ref a0), some (.int x1), some (.int (-1)), none, none, none]) 2 dX2_leadFromLeft_1 rfl (by decide) rfl ?_
  refine aw_aload_n 3 dX2_leadFromLeft_2 rfl rfl ?_
  obtain ⟨g1, H⟩ := H
  obtain ⟨g2, H⟩ := H
  refine aw_getR 6 dX2_leadFromLeft_3 rfl fl_X2_38 ir_2_2 g1 rfl g2 ?_
  obtain ⟨g3, H⟩ := H
  obtain ⟨g4, H⟩ := H
  refine aw_getR 9 dX2_leadFromLeft_6 rfl fl_X2_93 ir_4_0 g3 rfl g4 ?_
  refine aw_aload_n 10 dX2_leadFromLeft_9 rfl rfl ?_
  obtain ⟨g5, H⟩ := H
  refine aw_getR 13 dX2_leadFromLeft_10 rfl fl_X2_9 ir_2_3 g1 rfl g5 ?_
  refine aw_iload_n 14 dX2_leadFromLeft_13 rfl rfl ?_
  obtain ⟨g6, H⟩ := H
  obtain ⟨g7, H⟩ := H
  refine aw_iald 15 dX2_leadFromLeft_14 rfl (Or.inl (shp g6)) g7 ?_
  obtain ⟨g8, H⟩ := H
  obtain ⟨g9, H⟩ := H
  obtain ⟨g10, H⟩ := H
  refine aw_aald 16 dX2_leadFromLeft_15 rfl (shp g8) (by decide) g9 rfl g10 ?_
  refine aw_bipush (v := 40) 18 dX2_leadFromLeft_16 rfl (by decide) ?_
  obtain ⟨g11, H⟩ := H
  obtain ⟨g12, H⟩ := H
  refine aw_iald 19 dX2_leadFromLeft_18 rfl (Or.inl (shp g11)) g12 ?_
  refine aw_istore_n (loc' := [some (.ref a0), some (.int x1), some (.int (-1)), some (.int (hI h (hR h (hR h (hR h a0 2) 0) (hI h (hR h a0 3) x1.toNatClampNeg).toNatClampNeg) (40 : Int32).toNatClampNeg)), none, none]) 20 dX2_leadFromLeft_19 rfl (by decide) rfl ?_
  refine aw_iconst (v := 0) 21 dX2_leadFromLeft_20 rfl (by decide) ?_
  refine aw_istore (loc' := [some (.ref a0), some (.int x1), some (.int (-1)), some (.int (hI h (hR h (hR h (hR h a0 2) 0) (hI h (hR h a0 3) x1.toNatClampNeg).toNatClampNeg) (40 : Int32).toNatClampNeg)), some (.int 0), none]) 23 dX2_leadFromLeft_21 rfl (by decide) rfl ?_
  exact H
theorem eX2_leadFromLeft {w : Wd} {Q : Int32 → Hp → Prop} {h : Hp} {a0 : Nat} {x1 : Int32} (H : AW w mX2_leadFromLeft 0 0 (rI Q) 0 0 0 [some (.ref a0), some (.int x1), none, none, none, none] [] h) : AC w mX2_leadFromLeft 0 0 (rI Q) [.ref a0, .int x1] h := AC.ofL (by decide) (by simp [enl, Value.category]) (by simp [leL, enl, Value.category]) H
set_option maxHeartbeats 4000000 in
set_option maxRecDepth 100000 in
theorem sX2_leadFromLeft_23 {w : Wd} {Q : Int32 → Hp → Prop} {h : Hp} {a0 : Nat} {x1 : Int32} {x2 : Int32} {x3 : Int32} {x4 : Int32} (H : (hs h a0).1 = 22 ∧ (((hI h a0 6) ≤ x4 → Q x2 h) ∧ (¬ (hI h a0 6) ≤ x4 → hR h a0 2 ≠ 0 ∧ (hs h (hR h a0 2)).1 = 24 ∧ hR h (hR h a0 2) 0 ≠ 0 ∧ hR h a0 3 ≠ 0 ∧ (hs h (hR h a0 3)).1 = 1 ∧ vp_in x1 (hs h (hR h a0 3)).2 ∧ (hs h (hR h (hR h a0 2) 0)).1 = 6 ∧ vp_in (hI h (hR h a0 3) x1.toNatClampNeg) (hs h (hR h (hR h a0 2) 0)).2 ∧ hR h (hR h (hR h a0 2) 0) (hI h (hR h a0 3) x1.toNatClampNeg).toNatClampNeg ≠ 0 ∧ hR h a0 4 ≠ 0 ∧ (hs h (hR h a0 4)).1 = 1 ∧ vp_in x4 (hs h (hR h a0 4)).2 ∧ (hs h (hR h (hR h (hR h a0 2) 0) (hI h (hR h a0 3) x1.toNatClampNeg).toNatClampNeg)).1 = 1 ∧ vp_in (hI h (hR h a0 4) x4.toNatClampNeg) (hs h (hR h (hR h (hR h a0 2) 0) (hI h (hR h a0 3) x1.toNatClampNeg).toNatClampNeg)).2 ∧ ((x3 < (hI h (hR h (hR h (hR h a0 2) 0) (hI h (hR h a0 3) x1.toNatClampNeg).toNatClampNeg) (hI h (hR h a0 4) x4.toNatClampNeg).toNatClampNeg) → AW w mX2_leadFromLeft 0 0 (rI Q) 0 0 23 [some (.ref a0), some (.int x1), some (.int x4), some (.int (hI h (hR h (hR h (hR h a0 2) 0) (hI h (hR h a0 3) x1.toNatClampNeg).toNatClampNeg) (hI h (hR h a0 4) x4.toNatClampNeg).toNatClampNeg)), some (.int (x4 + 1)), none] [] h) ∧ (¬ x3 < (hI h (hR h (hR h (hR h a0 2) 0) (hI h (hR h a0 3) x1.toNatClampNeg).toNatClampNeg) (hI h (hR h a0 4) x4.toNatClampNeg).toNatClampNeg) → ((x2 = (-1) → AW w mX2_leadFromLeft 0 0 (rI Q) 0 0 23 [some (.ref a0), some (.int x1), some (.int x2), some (.int x3), some (.int (x4 + 1)), none] [] h) ∧ (¬ x2 = (-1) → ((¬ (hI h (hR h (hR h (hR h a0 2) 0) (hI h (hR h a0 3) x1.toNatClampNeg).toNatClampNeg) (hI h (hR h a0 4) x4.toNatClampNeg).toNatClampNeg) = x3 → AW w mX2_leadFromLeft 0 0 (rI Q) 0 0 23 [some (.ref a0), some (.int x1), some (.int x2), some (.int x3), some (.int (x4 + 1)), none] [] h) ∧ ((hI h (hR h (hR h (hR h a0 2) 0) (hI h (hR h a0 3) x1.toNatClampNeg).toNatClampNeg) (hI h (hR h a0 4) x4.toNatClampNeg).toNatClampNeg) = x3 → AC w mX2_isNearer 0 0 (rI fun r1 h1 => ((r1 = 0 → AW w mX2_leadFromLeft 0 0 (rI Q) 0 0 23 [some (.ref a0), some (.int x1), some (.int x2), some (.int x3), some (.int (x4 + 1)), none] [] h1) ∧ (¬ r1 = 0 → AW w mX2_leadFromLeft 0 0 (rI Q) 0 0 23 [some (.ref a0), some (.int x1), some (.int x4), some (.int (hI h (hR h (hR h (hR h a0 2) 0) (hI h (hR h a0 3) x1.toNatClampNeg).toNatClampNeg) (hI h (hR h a0 4) x4.toNatClampNeg).toNatClampNeg)), some (.int (x4 + 1)), none] [] h1))) [.int x1, .int x4, .int x2] h))))))))) : AW w mX2_leadFromLeft 0 0 (rI Q) 0 0 23 [some (.ref a0), some (.int x1), some (.int x2), some (.int x3), some (.int x4), none] [] h := by
  refine aw_iload 25 dX2_leadFromLeft_23 rfl rfl ?_
  refine aw_aload_n 26 dX2_leadFromLeft_25 rfl rfl ?_
  obtain ⟨g1, H⟩ := H
  refine aw_getI 29 dX2_leadFromLeft_26 rfl fl_X2_67 (by decide) g1 ?_
  refine aw_icmp_ge 95 32 dX2_leadFromLeft_29 rfl (by decide) (fun c2 => ?_) (fun c2 => ?_)
  · replace H := H.1 c2
    refine aw_iload_n 96 dX2_leadFromLeft_95 rfl rfl ?_
    exact aw_ireturn dX2_leadFromLeft_96 rfl (by decide) (by decide) ⟨_, rfl, H⟩
  · replace H := H.2 c2
    refine aw_aload_n 33 dX2_leadFromLeft_32 rfl rfl ?_
    obtain ⟨g3, H⟩ := H
    refine aw_getR 36 dX2_leadFromLeft_33 rfl fl_X2_38 ir_2_2 g1 rfl g3 ?_
    obtain ⟨g4, H⟩ := H
    obtain ⟨g5, H⟩ := H
    refine aw_getR 39 dX2_leadFromLeft_36 rfl fl_X2_93 ir_4_0 g4 rfl g5 ?_
    refine aw_aload_n 40 dX2_leadFromLeft_39 rfl rfl ?_
    obtain ⟨g6, H⟩ := H
    refine aw_getR 43 dX2_leadFromLeft_40 rfl fl_X2_9 ir_2_3 g1 rfl g6 ?_
    refine aw_iload_n 44 dX2_leadFromLeft_43 rfl rfl ?_
    obtain ⟨g7, H⟩ := H
    obtain ⟨g8, H⟩ := H
    refine aw_iald 45 dX2_leadFromLeft_44 rfl (Or.inl (shp g7)) g8 ?_
    obtain ⟨g9, H⟩ := H
    obtain ⟨g10, H⟩ := H
    obtain ⟨g11, H⟩ := H
    refine aw_aald 46 dX2_leadFromLeft_45 rfl (shp g9) (by decide) g10 rfl g11 ?_
    refine aw_aload_n 47 dX2_leadFromLeft_46 rfl rfl ?_
    obtain ⟨g12, H⟩ := H
    refine aw_getR 50 dX2_leadFromLeft_47 rfl fl_X2_15 ir_2_4 g1 rfl g12 ?_
    refine aw_iload 52 dX2_leadFromLeft_50 rfl rfl ?_
    obtain ⟨g13, H⟩ := H
    obtain ⟨g14, H⟩ := H
    refine aw_iald 53 dX2_leadFromLeft_52 rfl (Or.inl (shp g13)) g14 ?_
    obtain ⟨g15, H⟩ := H
    obtain ⟨g16, H⟩ := H
    refine aw_iald 54 dX2_leadFromLeft_53 rfl (Or.inl (shp g15)) g16 ?_
    refine aw_istore (loc' := [some (.ref a0), some (.int x1), some (.int x2), some (.int x3), some (.int x4), some (.int (hI h (hR h (hR h (hR h a0 2) 0) (hI h (hR h a0 3) x1.toNatClampNeg).toNatClampNeg) (hI h (hR h a0 4) x4.toNatClampNeg).toNatClampNeg))]) 56 dX2_leadFromLeft_54 rfl (by decide) rfl ?_
    refine aw_iload 58 dX2_leadFromLeft_56 rfl rfl ?_
    refine aw_iload_n 59 dX2_leadFromLeft_58 rfl rfl ?_
    refine aw_icmp_gt 83 62 dX2_leadFromLeft_59 rfl (by decide) (fun c17 => ?_) (fun c17 => ?_)
    · replace H := H.1 c17
      refine aw_iload 85 dX2_leadFromLeft_83 rfl rfl ?_
      refine aw_istore_n (loc' := [some (.ref a0), some (.int x1), some (.int x2), some (.int (hI h (hR h (hR h (hR h a0 2) 0) (hI h (hR h a0 3) x1.toNatClampNeg).toNatClampNeg) (hI h (hR h a0 4) x4.toNatClampNeg).toNatClampNeg)), some (.int x4), some (.int (hI h (hR h (hR h (hR h a0 2) 0) (hI h (hR h a0 3) x1.toNatClampNeg).toNatClampNeg) (hI h (hR h a0 4) x4.toNatClampNeg).toNatClampNeg))]) 86 dX2_leadFromLeft_85 rfl (by decide) rfl ?_
      refine aw_iload 88 dX2_leadFromLeft_86 rfl rfl ?_
      refine aw_istore_n (loc' := [some (.ref a0), some (.int x1), some (.int x4), some (.int (hI h (hR h (hR h (hR h a0 2) 0) (hI h (hR h a0 3) x1.toNatClampNeg).toNatClampNeg) (hI h (hR h a0 4) x4.toNatClampNeg).toNatClampNeg)), some (.int x4), some (.int (hI h (hR h (hR h (hR h a0 2) 0) (hI h (hR h a0 3) x1.toNatClampNeg).toNatClampNeg) (hI h (hR h a0 4) x4.toNatClampNeg).toNatClampNeg))]) 89 dX2_leadFromLeft_88 rfl (by decide) rfl ?_
      refine aw_iinc (y := 1) (loc' := [some (.ref a0), some (.int x1), some (.int x4), some (.int (hI h (hR h (hR h (hR h a0 2) 0) (hI h (hR h a0 3) x1.toNatClampNeg).toNatClampNeg) (hI h (hR h a0 4) x4.toNatClampNeg).toNatClampNeg)), some (.int (x4 + 1)), some (.int (hI h (hR h (hR h (hR h a0 2) 0) (hI h (hR h a0 3) x1.toNatClampNeg).toNatClampNeg) (hI h (hR h a0 4) x4.toNatClampNeg).toNatClampNeg))]) 92 dX2_leadFromLeft_89 rfl (by decide) rfl (by decide) rfl ?_
      refine aw_goto 23 dX2_leadFromLeft_92 (by decide) ?_
      exact aw_fgt (by simp [leL]) H
    · replace H := H.2 c17
      refine aw_iload_n 63 dX2_leadFromLeft_62 rfl rfl ?_
      refine aw_iconst (v := (-1)) 64 dX2_leadFromLeft_63 rfl (by decide) ?_
      refine aw_icmp_eq 89 67 dX2_leadFromLeft_64 rfl (by decide) (fun c18 => ?_) (fun c18 => ?_)
      · replace H := H.1 c18
        refine aw_iinc (y := 1) (loc' := [some (.ref a0), some (.int x1), some (.int x2), some (.int x3), some (.int (x4 + 1)), some (.int (hI h (hR h (hR h (hR h a0 2) 0) (hI h (hR h a0 3) x1.toNatClampNeg).toNatClampNeg) (hI h (hR h a0 4) x4.toNatClampNeg).toNatClampNeg))]) 92 dX2_leadFromLeft_89 rfl (by decide) rfl (by decide) rfl ?_
        refine aw_goto 23 dX2_leadFromLeft_92 (by decide) ?_
        exact aw_fgt (by simp [leL]) H
      · replace H := H.2 c18
        refine aw_iload 69 dX2_leadFromLeft_67 rfl rfl ?_
        refine aw_iload_n 70 dX2_leadFromLeft_69 rfl rfl ?_
        refine aw_icmp_ne 89 73 dX2_leadFromLeft_70 rfl (by decide) (fun c19 => ?_) (fun c19 => ?_)
        · replace H := H.1 c19
          refine aw_iinc (y := 1) (loc' := [some (.ref a0), some (.int x1), some (.int x2), some (.int x3), some (.int (x4 + 1)), some (.int (hI h (hR h (hR h (hR h a0 2) 0) (hI h (hR h a0 3) x1.toNatClampNeg).toNatClampNeg) (hI h (hR h a0 4) x4.toNatClampNeg).toNatClampNeg))]) 92 dX2_leadFromLeft_89 rfl (by decide) rfl (by decide) rfl ?_
          refine aw_goto 23 dX2_leadFromLeft_92 (by decide) ?_
          exact aw_fgt (by simp [leL]) H
        · replace H := H.2 c19
          refine aw_iload_n 74 dX2_leadFromLeft_73 rfl rfl ?_
          refine aw_iload 76 dX2_leadFromLeft_74 rfl rfl ?_
          refine aw_iload_n 77 dX2_leadFromLeft_76 rfl rfl ?_
          refine aw_callS (stk := []) [.int x1, .int x4, .int x2] 80 dX2_leadFromLeft_77 rfl mv_X2_98 ⟨by decide, by decide⟩ rfl rfl (by simp [Value.category]) (by decide) H ?_
          rintro _ h1 ⟨r1, rfl, H⟩
          refine aw_if_eq 89 83 dX2_leadFromLeft_80 rfl (by decide) (fun c20 => ?_) (fun c20 => ?_)
          · replace H := H.1 c20
            refine aw_iinc (y := 1) (loc' := [some (.ref a0), some (.int x1), some (.int x2), some (.int x3), some (.int (x4 + 1)), some (.int (hI h (hR h (hR h (hR h a0 2) 0) (hI h (hR h a0 3) x1.toNatClampNeg).toNatClampNeg) (hI h (hR h a0 4) x4.toNatClampNeg).toNatClampNeg))]) 92 dX2_leadFromLeft_89 rfl (by decide) rfl (by decide) rfl ?_
            refine aw_goto 23 dX2_leadFromLeft_92 (by decide) ?_
            exact aw_fgt (by simp [leL]) H
          · replace H := H.2 c20
            refine aw_iload 85 dX2_leadFromLeft_83 rfl rfl ?_
            refine aw_istore_n (loc' := [some (.ref a0), some (.int x1), some (.int x2), some (.int (hI h (hR h (hR h (hR h a0 2) 0) (hI h (hR h a0 3) x1.toNatClampNeg).toNatClampNeg) (hI h (hR h a0 4) x4.toNatClampNeg).toNatClampNeg)), some (.int x4), some (.int (hI h (hR h (hR h (hR h a0 2) 0) (hI h (hR h a0 3) x1.toNatClampNeg).toNatClampNeg) (hI h (hR h a0 4) x4.toNatClampNeg).toNatClampNeg))]) 86 dX2_leadFromLeft_85 rfl (by decide) rfl ?_
            refine aw_iload 88 dX2_leadFromLeft_86 rfl rfl ?_
            refine aw_istore_n (loc' := [some (.ref a0), some (.int x1), some (.int x4), some (.int (hI h (hR h (hR h (hR h a0 2) 0) (hI h (hR h a0 3) x1.toNatClampNeg).toNatClampNeg) (hI h (hR h a0 4) x4.toNatClampNeg).toNatClampNeg)), some (.int x4), some (.int (hI h (hR h (hR h (hR h a0 2) 0) (hI h (hR h a0 3) x1.toNatClampNeg).toNatClampNeg) (hI h (hR h a0 4) x4.toNatClampNeg).toNatClampNeg))]) 89 dX2_leadFromLeft_88 rfl (by decide) rfl ?_
            refine aw_iinc (y := 1) (loc' := [some (.ref a0), some (.int x1), some (.int x4), some (.int (hI h (hR h (hR h (hR h a0 2) 0) (hI h (hR h a0 3) x1.toNatClampNeg).toNatClampNeg) (hI h (hR h a0 4) x4.toNatClampNeg).toNatClampNeg)), some (.int (x4 + 1)), some (.int (hI h (hR h (hR h (hR h a0 2) 0) (hI h (hR h a0 3) x1.toNatClampNeg).toNatClampNeg) (hI h (hR h a0 4) x4.toNatClampNeg).toNatClampNeg))]) 92 dX2_leadFromLeft_89 rfl (by decide) rfl (by decide) rfl ?_
            refine aw_goto 23 dX2_leadFromLeft_92 (by decide) ?_
            exact aw_fgt (by simp [leL]) H
set_option maxHeartbeats 4000000 in
set_option maxRecDepth 100000 in
theorem sX2_leadFromRight_0 {w : Wd} {Q : Int32 → Hp → Prop} {h : Hp} {a0 : Nat} {x1 : Int32} (H : AW w mX2_leadFromRight 0 0 (rI Q) 0 0 7 [some (.ref a0), some (.int x1), some (.int (-1)), some (.int 0), some (.int 0), none] [] h) : AW w mX2_leadFromRight 0 0 (rI Q) 0 0 0 [some (.ref a0), some (.int x1), none, none, none, none] [] h := by
  refine aw_iconst (v := (-1)) 1 dX2_leadFromRight_0 rfl (by decide) ?_
  refine aw_istore_n (loc' := [some (.ref a0), some (.int x1), some (.int (-1)), none, none, none]) 2 dX2_leadFromRight_1 rfl (by decide) rfl ?_
  refine aw_iconst (v := 0) 3 dX2_leadFromRight_2 rfl (by decide) ?_
  refine aw_istore_n (loc' := [some (.ref a0), some (.int x1), some (.int (-1)), some (.int 0), none, none]) 4 dX2_leadFromRight_3 rfl (by decide) rfl ?_
  refine aw_iconst (v := 0) 5 dX2_leadFromRight_4 rfl (by decide) ?_
  refine aw_istore (loc' := [some (.ref a0), some (.int x1), some (.int (-1)), some (.int 0), some (.int 0), none]) 7 dX2_leadFromRight_5 rfl (by decide) rfl ?_
  exact H
theorem eX2_leadFromRight {w : Wd} {Q : Int32 → Hp → Prop} {h : Hp} {a0 : Nat} {x1 : Int32} (H : AW w mX2_leadFromRight 0 0 (rI Q) 0 0 0 [some (.ref a0), some (.int x1), none, none, none, none] [] h) : AC w mX2_leadFromRight 0 0 (rI Q) [.ref a0, .int x1] h := AC.ofL (by decide) (by simp [enl, Value.category]) (by simp [leL, enl, Value.category]) H
set_option maxHeartbeats 4000000 in
set_option maxRecDepth 100000 in
theorem sX2_leadFromRight_7 {w : Wd} {Q : Int32 → Hp → Prop} {h : Hp} {a0 : Nat} {x1 : Int32} {x2 : Int32} {x3 : Int32} {x4 : Int32} (H : (hs h a0).1 = 22 ∧ (((hI h a0 5) ≤ x4 → Q x2 h) ∧ (¬ (hI h a0 5) ≤ x4 → hR h a0 2 ≠ 0 ∧ (hs h (hR h a0 2)).1 = 24 ∧ hR h (hR h a0 2) 0 ≠ 0 ∧ hR h a0 3 ≠ 0 ∧ (hs h (hR h a0 3)).1 = 1 ∧ vp_in x4 (hs h (hR h a0 3)).2 ∧ (hs h (hR h (hR h a0 2) 0)).1 = 6 ∧ vp_in (hI h (hR h a0 3) x4.toNatClampNeg) (hs h (hR h (hR h a0 2) 0)).2 ∧ hR h (hR h (hR h a0 2) 0) (hI h (hR h a0 3) x4.toNatClampNeg).toNatClampNeg ≠ 0 ∧ hR h a0 4 ≠ 0 ∧ (hs h (hR h a0 4)).1 = 1 ∧ vp_in x1 (hs h (hR h a0 4)).2 ∧ (hs h (hR h (hR h (hR h a0 2) 0) (hI h (hR h a0 3) x4.toNatClampNeg).toNatClampNeg)).1 = 1 ∧ vp_in (hI h (hR h a0 4) x1.toNatClampNeg) (hs h (hR h (hR h (hR h a0 2) 0) (hI h (hR h a0 3) x4.toNatClampNeg).toNatClampNeg)).2 ∧ ((x3 < (hI h (hR h (hR h (hR h a0 2) 0) (hI h (hR h a0 3) x4.toNatClampNeg).toNatClampNeg) (hI h (hR h a0 4) x1.toNatClampNeg).toNatClampNeg) → AW w mX2_leadFromRight 0 0 (rI Q) 0 0 7 [some (.ref a0), some (.int x1), some (.int x4), some (.int (hI h (hR h (hR h (hR h a0 2) 0) (hI h (hR h a0 3) x4.toNatClampNeg).toNatClampNeg) (hI h (hR h a0 4) x1.toNatClampNeg).toNatClampNeg)), some (.int (x4 + 1)), none] [] h) ∧ (¬ x3 < (hI h (hR h (hR h (hR h a0 2) 0) (hI h (hR h a0 3) x4.toNatClampNeg).toNatClampNeg) (hI h (hR h a0 4) x1.toNatClampNeg).toNatClampNeg) → ((x2 = (-1) → AW w mX2_leadFromRight 0 0 (rI Q) 0 0 7 [some (.ref a0), some (.int x1), some (.int x2), some (.int x3), some (.int (x4 + 1)), none] [] h) ∧ (¬ x2 = (-1) → ((¬ (hI h (hR h (hR h (hR h a0 2) 0) (hI h (hR h a0 3) x4.toNatClampNeg).toNatClampNeg) (hI h (hR h a0 4) x1.toNatClampNeg).toNatClampNeg) = x3 → AW w mX2_leadFromRight 0 0 (rI Q) 0 0 7 [some (.ref a0), some (.int x1), some (.int x2), some (.int x3), some (.int (x4 + 1)), none] [] h) ∧ ((hI h (hR h (hR h (hR h a0 2) 0) (hI h (hR h a0 3) x4.toNatClampNeg).toNatClampNeg) (hI h (hR h a0 4) x1.toNatClampNeg).toNatClampNeg) = x3 → AC w mX2_isNearer 0 0 (rI fun r1 h1 => ((r1 = 0 → AW w mX2_leadFromRight 0 0 (rI Q) 0 0 7 [some (.ref a0), some (.int x1), some (.int x2), some (.int x3), some (.int (x4 + 1)), none] [] h1) ∧ (¬ r1 = 0 → AW w mX2_leadFromRight 0 0 (rI Q) 0 0 7 [some (.ref a0), some (.int x1), some (.int x4), some (.int (hI h (hR h (hR h (hR h a0 2) 0) (hI h (hR h a0 3) x4.toNatClampNeg).toNatClampNeg) (hI h (hR h a0 4) x1.toNatClampNeg).toNatClampNeg)), some (.int (x4 + 1)), none] [] h1))) [.int x1, .int x4, .int x2] h))))))))) : AW w mX2_leadFromRight 0 0 (rI Q) 0 0 7 [some (.ref a0), some (.int x1), some (.int x2), some (.int x3), some (.int x4), none] [] h := by
  refine aw_iload 9 dX2_leadFromRight_7 rfl rfl ?_
  refine aw_aload_n 10 dX2_leadFromRight_9 rfl rfl ?_
  obtain ⟨g1, H⟩ := H
  refine aw_getI 13 dX2_leadFromRight_10 rfl fl_X2_57 (by decide) g1 ?_
  refine aw_icmp_ge 79 16 dX2_leadFromRight_13 rfl (by decide) (fun c2 => ?_) (fun c2 => ?_)
  · replace H := H.1 c2
    refine aw_iload_n 80 dX2_leadFromRight_79 rfl rfl ?_
    exact aw_ireturn dX2_leadFromRight_80 rfl (by decide) (by decide) ⟨_, rfl, H⟩
  · replace H := H.2 c2
    refine aw_aload_n 17 dX2_leadFromRight_16 rfl rfl ?_
    obtain ⟨g3, H⟩ := H
    refine aw_getR 20 dX2_leadFromRight_17 rfl fl_X2_38 ir_2_2 g1 rfl g3 ?_
    obtain ⟨g4, H⟩ := H
    obtain ⟨g5, H⟩ := H
    refine aw_getR 23 dX2_leadFromRight_20 rfl fl_X2_93 ir_4_0 g4 rfl g5 ?_
    refine aw_aload_n 24 dX2_leadFromRight_23 rfl rfl ?_
    obtain ⟨g6, H⟩ := H
    refine aw_getR 27 dX2_leadFromRight_24 rfl fl_X2_9 ir_2_3 g1 rfl g6 ?_
    refine aw_iload 29 dX2_leadFromRight_27 rfl rfl ?_
    obtain ⟨g7, H⟩ := H
    obtain ⟨g8, H⟩ := H
    refine aw_iald 30 dX2_leadFromRight_29 rfl (Or.inl (shp g7)) g8 ?_
    obtain ⟨g9, H⟩ := H
    obtain ⟨g10, H⟩ := H
    obtain ⟨g11, H⟩ := H
    refine aw_aald 31 dX2_leadFromRight_30 rfl (shp g9) (by decide) g10 rfl g11 ?_
    refine aw_aload_n 32 dX2_leadFromRight_31 rfl rfl ?_
    obtain ⟨g12, H⟩ := H
    refine aw_getR 35 dX2_leadFromRight_32 rfl fl_X2_15 ir_2_4 g1 rfl g12 ?_
    refine aw_iload_n 36 dX2_leadFromRight_35 rfl rfl ?_
    obtain ⟨g13, H⟩ := H
    obtain ⟨g14, H⟩ := H
    refine aw_iald 37 dX2_leadFromRight_36 rfl (Or.inl (shp g13)) g14 ?_
    obtain ⟨g15, H⟩ := H
    obtain ⟨g16, H⟩ := H
    refine aw_iald 38 dX2_leadFromRight_37 rfl (Or.inl (shp g15)) g16 ?_
    refine aw_istore (loc' := [some (.ref a0), some (.int x1), some (.int x2), some (.int x3), some (.int x4), some (.int (hI h (hR h (hR h (hR h a0 2) 0) (hI h (hR h a0 3) x4.toNatClampNeg).toNatClampNeg) (hI h (hR h a0 4) x1.toNatClampNeg).toNatClampNeg))]) 40 dX2_leadFromRight_38 rfl (by decide) rfl ?_
    refine aw_iload 42 dX2_leadFromRight_40 rfl rfl ?_
    refine aw_iload_n 43 dX2_leadFromRight_42 rfl rfl ?_
    refine aw_icmp_gt 67 46 dX2_leadFromRight_43 rfl (by decide) (fun c17 => ?_) (fun c17 => ?_)
    · replace H := H.1 c17
      refine aw_iload 69 dX2_leadFromRight_67 rfl rfl ?_
      refine aw_istore_n (loc' := [some (.ref a0), some (.int x1), some (.int x2), some (.int (hI h (hR h (hR h (hR h a0 2) 0) (hI h (hR h a0 3) x4.toNatClampNeg).toNatClampNeg) (hI h (hR h a0 4) x1.toNatClampNeg).toNatClampNeg)), some (.int x4), some (.int (hI h (hR h (hR h (hR h a0 2) 0) (hI h (hR h a0 3) x4.toNatClampNeg).toNatClampNeg) (hI h (hR h a0 4) x1.toNatClampNeg).toNatClampNeg))]) 70 dX2_leadFromRight_69 rfl (by decide) rfl ?_
      refine aw_iload 72 dX2_leadFromRight_70 rfl rfl ?_
      refine aw_istore_n (loc' := [some (.ref a0), some (.int x1), some (.int x4), some (.int (hI h (hR h (hR h (hR h a0 2) 0) (hI h (hR h a0 3) x4.toNatClampNeg).toNatClampNeg) (hI h (hR h a0 4) x1.toNatClampNeg).toNatClampNeg)), some (.int x4), some (.int (hI h (hR h (hR h (hR h a0 2) 0) (hI h (hR h a0 3) x4.toNatClampNeg).toNatClampNeg) (hI h (hR h a0 4) x1.toNatClampNeg).toNatClampNeg))]) 73 dX2_leadFromRight_72 rfl (by decide) rfl ?_
      refine aw_iinc (y := 1) (loc' := [some (.ref a0), some (.int x1), some (.int x4), some (.int (hI h (hR h (hR h (hR h a0 2) 0) (hI h (hR h a0 3) x4.toNatClampNeg).toNatClampNeg) (hI h (hR h a0 4) x1.toNatClampNeg).toNatClampNeg)), some (.int (x4 + 1)), some (.int (hI h (hR h (hR h (hR h a0 2) 0) (hI h (hR h a0 3) x4.toNatClampNeg).toNatClampNeg) (hI h (hR h a0 4) x1.toNatClampNeg).toNatClampNeg))]) 76 dX2_leadFromRight_73 rfl (by decide) rfl (by decide) rfl ?_
      refine aw_goto 7 dX2_leadFromRight_76 (by decide) ?_
      exact aw_fgt (by simp [leL]) H
    · replace H := H.2 c17
      refine aw_iload_n 47 dX2_leadFromRight_46 rfl rfl ?_
      refine aw_iconst (v := (-1)) 48 dX2_leadFromRight_47 rfl (by decide) ?_
      refine aw_icmp_eq 73 51 dX2_leadFromRight_48 rfl (by decide) (fun c18 => ?_) (fun c18 => ?_)
      · replace H := H.1 c18
        refine aw_iinc (y := 1) (loc' := [some (.ref a0), some (.int x1), some (.int x2), some (.int x3), some (.int (x4 + 1)), some (.int (hI h (hR h (hR h (hR h a0 2) 0) (hI h (hR h a0 3) x4.toNatClampNeg).toNatClampNeg) (hI h (hR h a0 4) x1.toNatClampNeg).toNatClampNeg))]) 76 dX2_leadFromRight_73 rfl (by decide) rfl (by decide) rfl ?_
        refine aw_goto 7 dX2_leadFromRight_76 (by decide) ?_
        exact aw_fgt (by simp [leL]) H
      · replace H := H.2 c18
        refine aw_iload 53 dX2_leadFromRight_51 rfl rfl ?_
        refine aw_iload_n 54 dX2_leadFromRight_53 rfl rfl ?_
        refine aw_icmp_ne 73 57 dX2_leadFromRight_54 rfl (by decide) (fun c19 => ?_) (fun c19 => ?_)
        · replace H := H.1 c19
          refine aw_iinc (y := 1) (loc' := [some (.ref a0), some (.int x1), some (.int x2), some (.int x3), some (.int (x4 + 1)), some (.int (hI h (hR h (hR h (hR h a0 2) 0) (hI h (hR h a0 3) x4.toNatClampNeg).toNatClampNeg) (hI h (hR h a0 4) x1.toNatClampNeg).toNatClampNeg))]) 76 dX2_leadFromRight_73 rfl (by decide) rfl (by decide) rfl ?_
          refine aw_goto 7 dX2_leadFromRight_76 (by decide) ?_
          exact aw_fgt (by simp [leL]) H
        · replace H := H.2 c19
          refine aw_iload_n 58 dX2_leadFromRight_57 rfl rfl ?_
          refine aw_iload 60 dX2_leadFromRight_58 rfl rfl ?_
          refine aw_iload_n 61 dX2_leadFromRight_60 rfl rfl ?_
          refine aw_callS (stk := []) [.int x1, .int x4, .int x2] 64 dX2_leadFromRight_61 rfl mv_X2_98 ⟨by decide, by decide⟩ rfl rfl (by simp [Value.category]) (by decide) H ?_
          rintro _ h1 ⟨r1, rfl, H⟩
          refine aw_if_eq 73 67 dX2_leadFromRight_64 rfl (by decide) (fun c20 => ?_) (fun c20 => ?_)
          · replace H := H.1 c20
            refine aw_iinc (y := 1) (loc' := [some (.ref a0), some (.int x1), some (.int x2), some (.int x3), some (.int (x4 + 1)), some (.int (hI h (hR h (hR h (hR h a0 2) 0) (hI h (hR h a0 3) x4.toNatClampNeg).toNatClampNeg) (hI h (hR h a0 4) x1.toNatClampNeg).toNatClampNeg))]) 76 dX2_leadFromRight_73 rfl (by decide) rfl (by decide) rfl ?_
            refine aw_goto 7 dX2_leadFromRight_76 (by decide) ?_
            exact aw_fgt (by simp [leL]) H
          · replace H := H.2 c20
            refine aw_iload 69 dX2_leadFromRight_67 rfl rfl ?_
            refine aw_istore_n (loc' := [some (.ref a0), some (.int x1), some (.int x2), some (.int (hI h (hR h (hR h (hR h a0 2) 0) (hI h (hR h a0 3) x4.toNatClampNeg).toNatClampNeg) (hI h (hR h a0 4) x1.toNatClampNeg).toNatClampNeg)), some (.int x4), some (.int (hI h (hR h (hR h (hR h a0 2) 0) (hI h (hR h a0 3) x4.toNatClampNeg).toNatClampNeg) (hI h (hR h a0 4) x1.toNatClampNeg).toNatClampNeg))]) 70 dX2_leadFromRight_69 rfl (by decide) rfl ?_
            refine aw_iload 72 dX2_leadFromRight_70 rfl rfl ?_
            refine aw_istore_n (loc' := [some (.ref a0), some (.int x1), some (.int x4), some (.int (hI h (hR h (hR h (hR h a0 2) 0) (hI h (hR h a0 3) x4.toNatClampNeg).toNatClampNeg) (hI h (hR h a0 4) x1.toNatClampNeg).toNatClampNeg)), some (.int x4), some (.int (hI h (hR h (hR h (hR h a0 2) 0) (hI h (hR h a0 3) x4.toNatClampNeg).toNatClampNeg) (hI h (hR h a0 4) x1.toNatClampNeg).toNatClampNeg))]) 73 dX2_leadFromRight_72 rfl (by decide) rfl ?_
            refine aw_iinc (y := 1) (loc' := [some (.ref a0), some (.int x1), some (.int x4), some (.int (hI h (hR h (hR h (hR h a0 2) 0) (hI h (hR h a0 3) x4.toNatClampNeg).toNatClampNeg) (hI h (hR h a0 4) x1.toNatClampNeg).toNatClampNeg)), some (.int (x4 + 1)), some (.int (hI h (hR h (hR h (hR h a0 2) 0) (hI h (hR h a0 3) x4.toNatClampNeg).toNatClampNeg) (hI h (hR h a0 4) x1.toNatClampNeg).toNatClampNeg))]) 76 dX2_leadFromRight_73 rfl (by decide) rfl (by decide) rfl ?_
            refine aw_goto 7 dX2_leadFromRight_76 (by decide) ?_
            exact aw_fgt (by simp [leL]) H
set_option maxHeartbeats 4000000 in
set_option maxRecDepth 100000 in
theorem sX2_isNearer_0 {w : Wd} {Q : Int32 → Hp → Prop} {h : Hp} {x0 : Int32} {x1 : Int32} {x2 : Int32} (H : (((if 0 ≤ (x0 - x2) then (x0 - x2) else 0 - (x0 - x2)) ≤ (if 0 ≤ (x0 - x1) then (x0 - x1) else 0 - (x0 - x1)) → Q 0 h) ∧ (¬ (if 0 ≤ (x0 - x2) then (x0 - x2) else 0 - (x0 - x2)) ≤ (if 0 ≤ (x0 - x1) then (x0 - x1) else 0 - (x0 - x1)) → Q 1 h))) : AW w mX2_isNearer 0 0 (rI Q) 0 0 0 [some (.int x0), some (.int x1), some (.int x2)] [] h := by
  refine aw_iload_n 1 dX2_isNearer_0 rfl rfl ?_
  refine aw_iload_n 2 dX2_isNearer_1 rfl rfl ?_
  refine aw_isub 3 dX2_isNearer_2 rfl ?_
  refine aw_mabs (stk := []) 6 dX2_isNearer_3 rfl mv_X2_102 (by decide) (by simp [Value.category]) (by decide) (by decide) ?_
  refine aw_iload_n 7 dX2_isNearer_6 rfl rfl ?_
  refine aw_iload_n 8 dX2_isNearer_7 rfl rfl ?_
  refine aw_isub 9 dX2_isNearer_8 rfl ?_
  refine aw_mabs (stk := [.int (if 0 ≤ (x0 - x1) then (x0 - x1) else 0 - (x0 - x1))]) 12 dX2_isNearer_9 rfl mv_X2_102 (by decide) (by simp [Value.category]) (by decide) (by decide) ?_
  refine aw_icmp_ge 19 15 dX2_isNearer_12 rfl (by decide) (fun c1 => ?_) (fun c1 => ?_)
  · replace H := H.1 c1
    refine aw_iconst (v := 0) 20 dX2_isNearer_19 rfl (by decide) ?_
    exact aw_zreturn dX2_isNearer_20 rfl (by decide) (by decide) (by decide) ⟨_, rfl, H⟩
  · replace H := H.2 c1
    refine aw_iconst (v := 1) 16 dX2_isNearer_15 rfl (by decide) ?_
    refine aw_goto 20 dX2_isNearer_16 (by decide) ?_
    exact aw_zreturn dX2_isNearer_20 rfl (by decide) (by decide) (by decide) ⟨_, rfl, H⟩
theorem eX2_isNearer {w : Wd} {Q : Int32 → Hp → Prop} {h : Hp} {x0 : Int32} {x1 : Int32} {x2 : Int32} (H : AW w mX2_isNearer 0 0 (rI Q) 0 0 0 [some (.int x0), some (.int x1), some (.int x2)] [] h) : AC w mX2_isNearer 0 0 (rI Q) [.int x0, .int x1, .int x2] h := AC.ofL (by decide) (by simp [enl, Value.category]) (by simp [leL, enl, Value.category]) H
set_option maxHeartbeats 4000000 in
set_option maxRecDepth 100000 in
theorem sX2_isBoth_0 {w : Wd} {Q : Int32 → Hp → Prop} {h : Hp} {a0 : Nat} {x1 : Int32} {x2 : Int32} (H : (hs h a0).1 = 22 ∧ hR h a0 7 ≠ 0 ∧ (hs h (hR h a0 7)).1 = 1 ∧ vp_in x1 (hs h (hR h a0 7)).2 ∧ ((¬ (hI h (hR h a0 7) x1.toNatClampNeg) = x2 → Q 0 h) ∧ ((hI h (hR h a0 7) x1.toNatClampNeg) = x2 → hR h a0 8 ≠ 0 ∧ (hs h (hR h a0 8)).1 = 1 ∧ vp_in x2 (hs h (hR h a0 8)).2 ∧ ((¬ (hI h (hR h a0 8) x2.toNatClampNeg) = x1 → Q 0 h) ∧ ((hI h (hR h a0 8) x2.toNatClampNeg) = x1 → Q 1 h))))) : AW w mX2_isBoth 0 0 (rI Q) 0 0 0 [some (.ref a0), some (.int x1), some (.int x2)] [] h := by
  refine aw_aload_n 1 dX2_isBoth_0 rfl rfl ?_
  obtain ⟨g1, H⟩ := H
  obtain ⟨g2, H⟩ := H
  refine aw_getR 4 dX2_isBoth_1 rfl fl_X2_18 ir_2_7 g1 rfl g2 ?_
  refine aw_iload_n 5 dX2_isBoth_4 rfl rfl ?_
  obtain ⟨g3, H⟩ := H
  obtain ⟨g4, H⟩ := H
  refine aw_iald 6 dX2_isBoth_5 rfl (Or.inl (shp g3)) g4 ?_
  refine aw_iload_n 7 dX2_isBoth_6 rfl rfl ?_
  refine aw_icmp_ne 24 10 dX2_isBoth_7 rfl (by decide) (fun c5 => ?_) (fun c5 => ?_)
  · replace H := H.1 c5
    refine aw_iconst (v := 0) 25 dX2_isBoth_24 rfl (by decide) ?_
    exact aw_zreturn dX2_isBoth_25 rfl (by decide) (by decide) (by decide) ⟨_, rfl, H⟩
  · replace H := H.2 c5
    refine aw_aload_n 11 dX2_isBoth_10 rfl rfl ?_
    obtain ⟨g6, H⟩ := H
    refine aw_getR 14 dX2_isBoth_11 rfl fl_X2_21 ir_2_8 g1 rfl g6 ?_
    refine aw_iload_n 15 dX2_isBoth_14 rfl rfl ?_
    obtain ⟨g7, H⟩ := H
    obtain ⟨g8, H⟩ := H
    refine aw_iald 16 dX2_isBoth_15 rfl (Or.inl (shp g7)) g8 ?_
    refine aw_iload_n 17 dX2_isBoth_16 rfl rfl ?_
    refine aw_icmp_ne 24 20 dX2_isBoth_17 rfl (by decide) (fun c9 => ?_) (fun c9 => ?_)
    · replace H := H.1 c9
      refine aw_iconst (v := 0) 25 dX2_isBoth_24 rfl (by decide) ?_
      exact aw_zreturn dX2_isBoth_25 rfl (by decide) (by decide) (by decide) ⟨_, rfl, H⟩
    · replace H := H.2 c9
      refine aw_iconst (v := 1) 21 dX2_isBoth_20 rfl (by decide) ?_
      refine aw_goto 25 dX2_isBoth_21 (by decide) ?_
      exact aw_zreturn dX2_isBoth_25 rfl (by decide) (by decide) (by decide) ⟨_, rfl, H⟩
theorem eX2_isBoth {w : Wd} {Q : Int32 → Hp → Prop} {h : Hp} {a0 : Nat} {x1 : Int32} {x2 : Int32} (H : AW w mX2_isBoth 0 0 (rI Q) 0 0 0 [some (.ref a0), some (.int x1), some (.int x2)] [] h) : AC w mX2_isBoth 0 0 (rI Q) [.ref a0, .int x1, .int x2] h := AC.ofL (by decide) (by simp [enl, Value.category]) (by simp [leL, enl, Value.category]) H
set_option maxHeartbeats 4000000 in
set_option maxRecDepth 100000 in
theorem sX2_isGrown_0 {w : Wd} {Q : Int32 → Hp → Prop} {h : Hp} {a0 : Nat} {x1 : Int32} {x2 : Int32} (H : (hs h a0).1 = 22 ∧ hR h a0 9 ≠ 0 ∧ (hs h (hR h a0 9)).1 = 1 ∧ vp_in x1 (hs h (hR h a0 9)).2 ∧ ((((((hI h (hR h a0 9) x1.toNatClampNeg).toUInt32 >>> (x2.toUInt32 &&& Int32.toUInt32 31)).toInt32) &&& 1) = 0 → Q 0 h) ∧ (¬ ((((hI h (hR h a0 9) x1.toNatClampNeg).toUInt32 >>> (x2.toUInt32 &&& Int32.toUInt32 31)).toInt32) &&& 1) = 0 → Q 1 h))) : AW w mX2_isGrown 0 0 (rI Q) 0 0 0 [some (.ref a0), some (.int x1), some (.int x2)] [] h := by
  refine aw_aload_n 1 dX2_isGrown_0 rfl rfl ?_
  obtain ⟨g1, H⟩ := H
  obtain ⟨g2, H⟩ := H
  refine aw_getR 4 dX2_isGrown_1 rfl fl_X2_24 ir_2_9 g1 rfl g2 ?_
  refine aw_iload_n 5 dX2_isGrown_4 rfl rfl ?_
  obtain ⟨g3, H⟩ := H
  obtain ⟨g4, H⟩ := H
  refine aw_iald 6 dX2_isGrown_5 rfl (Or.inl (shp g3)) g4 ?_
  refine aw_iload_n 7 dX2_isGrown_6 rfl rfl ?_
  refine aw_iushr 8 dX2_isGrown_7 rfl ?_
  refine aw_iconst (v := 1) 9 dX2_isGrown_8 rfl (by decide) ?_
  refine aw_iand 10 dX2_isGrown_9 rfl ?_
  refine aw_if_eq 17 13 dX2_isGrown_10 rfl (by decide) (fun c5 => ?_) (fun c5 => ?_)
  · replace H := H.1 c5
    refine aw_iconst (v := 0) 18 dX2_isGrown_17 rfl (by decide) ?_
    exact aw_zreturn dX2_isGrown_18 rfl (by decide) (by decide) (by decide) ⟨_, rfl, H⟩
  · replace H := H.2 c5
    refine aw_iconst (v := 1) 14 dX2_isGrown_13 rfl (by decide) ?_
    refine aw_goto 18 dX2_isGrown_14 (by decide) ?_
    exact aw_zreturn dX2_isGrown_18 rfl (by decide) (by decide) (by decide) ⟨_, rfl, H⟩
theorem eX2_isGrown {w : Wd} {Q : Int32 → Hp → Prop} {h : Hp} {a0 : Nat} {x1 : Int32} {x2 : Int32} (H : AW w mX2_isGrown 0 0 (rI Q) 0 0 0 [some (.ref a0), some (.int x1), some (.int x2)] [] h) : AC w mX2_isGrown 0 0 (rI Q) [.ref a0, .int x1, .int x2] h := AC.ofL (by decide) (by simp [enl, Value.category]) (by simp [leL, enl, Value.category]) H
set_option maxHeartbeats 4000000 in
set_option maxRecDepth 100000 in
theorem sX2_addGrown_0 {w : Wd} {Q : Hp → Prop} {h : Hp} {a0 : Nat} {x1 : Int32} {x2 : Int32} (H : (hs h a0).1 = 22 ∧ hR h a0 9 ≠ 0 ∧ (hs h (hR h a0 9)).1 = 1 ∧ vp_in x1 (hs h (hR h a0 9)).2 ∧ ∀ h1, h1 = sI h (hR h a0 9) x1.toNatClampNeg ((hI h (hR h a0 9) x1.toNatClampNeg) ||| (1 <<< (x2 &&& 31))) → hR h a0 10 ≠ 0 ∧ (hs h (hR h a0 10)).1 = 1 ∧ vp_in x2 (hs h (hR h a0 10)).2 ∧ ∀ h2, h2 = sI h1 (hR h a0 10) x2.toNatClampNeg ((hI h1 (hR h a0 10) x2.toNatClampNeg) ||| (1 <<< (x1 &&& 31))) → Q h2) : AW w mX2_addGrown 0 0 (rV Q) 0 0 0 [some (.ref a0), some (.int x1), some (.int x2)] [] h := by
  refine aw_aload_n 1 dX2_addGrown_0 rfl rfl ?_
  obtain ⟨g1, H⟩ := H
  obtain ⟨g2, H⟩ := H
  refine aw_getR 4 dX2_addGrown_1 rfl fl_X2_24 ir_2_9 g1 rfl g2 ?_
  refine aw_iload_n 5 dX2_addGrown_4 rfl rfl ?_
  refine aw_dup2 6 dX2_addGrown_5 rfl rfl rfl ?_
  obtain ⟨g3, H⟩ := H
  obtain ⟨g4, H⟩ := H
  refine aw_iald 7 dX2_addGrown_6 rfl (Or.inl (shp g3)) g4 ?_
  refine aw_iconst (v := 1) 8 dX2_addGrown_7 rfl (by decide) ?_
  refine aw_iload_n 9 dX2_addGrown_8 rfl rfl ?_
  refine aw_ishl 10 dX2_addGrown_9 rfl ?_
  refine aw_ior 11 dX2_addGrown_10 rfl ?_
  refine aw_iast 12 dX2_addGrown_11 rfl (shp g3) g4 ?_
  replace H := H _ rfl
  refine aw_aload_n 13 dX2_addGrown_12 rfl rfl ?_
  obtain ⟨g5, H⟩ := H
  refine aw_getR 16 dX2_addGrown_13 rfl fl_X2_27 ir_2_10 g1 rfl g5 ?_
  refine aw_iload_n 17 dX2_addGrown_16 rfl rfl ?_
  refine aw_dup2 18 dX2_addGrown_17 rfl rfl rfl ?_
  obtain ⟨g6, H⟩ := H
  obtain ⟨g7, H⟩ := H
  refine aw_iald 19 dX2_addGrown_18 rfl (Or.inl (shp g6)) g7 ?_
  refine aw_iconst (v := 1) 20 dX2_addGrown_19 rfl (by decide) ?_
  refine aw_iload_n 21 dX2_addGrown_20 rfl rfl ?_
  refine aw_ishl 22 dX2_addGrown_21 rfl ?_
  refine aw_ior 23 dX2_addGrown_22 rfl ?_
  refine aw_iast 24 dX2_addGrown_23 rfl (shp g6) g7 ?_
  replace H := H _ rfl
  exact aw_return dX2_addGrown_24 rfl (by decide) (by decide) ⟨rfl, H⟩
theorem eX2_addGrown {w : Wd} {Q : Hp → Prop} {h : Hp} {a0 : Nat} {x1 : Int32} {x2 : Int32} (H : AW w mX2_addGrown 0 0 (rV Q) 0 0 0 [some (.ref a0), some (.int x1), some (.int x2)] [] h) : AC w mX2_addGrown 0 0 (rV Q) [.ref a0, .int x1, .int x2] h := AC.ofL (by decide) (by simp [enl, Value.category]) (by simp [leL, enl, Value.category]) H
set_option maxHeartbeats 4000000 in
set_option maxRecDepth 100000 in
theorem sX2_growBoth_0 {w : Wd} {Q : Hp → Prop} {h : Hp} {a0 : Nat} (H : AW w mX2_growBoth 0 0 (rV Q) 0 0 2 [some (.ref a0), some (.int 0), none] [] h) : AW w mX2_growBoth 0 0 (rV Q) 0 0 0 [some (.ref a0), none, none] [] h := by
  refine aw_iconst (v := 0) 1 dX2_growBoth_0 rfl (by decide) ?_
  refine aw_istore_n (loc' := [some (.ref a0), some (.int 0), none]) 2 dX2_growBoth_1 rfl (by decide) rfl ?_
  exact H
theorem eX2_growBoth {w : Wd} {Q : Hp → Prop} {h : Hp} {a0 : Nat} (H : AW w mX2_growBoth 0 0 (rV Q) 0 0 0 [some (.ref a0), none, none] [] h) : AC w mX2_growBoth 0 0 (rV Q) [.ref a0] h := AC.ofL (by decide) (by simp [enl, Value.category]) (by simp [leL, enl, Value.category]) H
set_option maxHeartbeats 4000000 in
set_option maxRecDepth 100000 in
theorem sX2_growBoth_2 {w : Wd} {Q : Hp → Prop} {h : Hp} {a0 : Nat} {x1 : Int32} (H : (hs h a0).1 = 22 ∧ (((hI h a0 5) ≤ x1 → Q h) ∧ (¬ (hI h a0 5) ≤ x1 → hR h a0 7 ≠ 0 ∧ (hs h (hR h a0 7)).1 = 1 ∧ vp_in x1 (hs h (hR h a0 7)).2 ∧ (((hI h (hR h a0 7) x1.toNatClampNeg) = (-1) → AW w mX2_growBoth 0 0 (rV Q) 0 0 2 [some (.ref a0), some (.int (x1 + 1)), none] [] h) ∧ (¬ (hI h (hR h a0 7) x1.toNatClampNeg) = (-1) → AC w mX2_isBoth 0 0 (rI fun r1 h1 => ((r1 = 0 → AW w mX2_growBoth 0 0 (rV Q) 0 0 2 [some (.ref a0), some (.int (x1 + 1)), none] [] h1) ∧ (¬ r1 = 0 → (hs h1 a0).1 = 22 ∧ AC w mX2_addGrown 0 0 (rV fun h2 => AW w mX2_growBoth 0 0 (rV Q) 0 0 2 [some (.ref a0), some (.int (x1 + 1)), none] [] h2) [.ref a0, .int x1, .int (hI h (hR h a0 7) x1.toNatClampNeg)] h1))) [.ref a0, .int x1, .int (hI h (hR h a0 7) x1.toNatClampNeg)] h))))) : AW w mX2_growBoth 0 0 (rV Q) 0 0 2 [some (.ref a0), some (.int x1), none] [] h := by
  refine aw_iload_n 3 dX2_growBoth_2 rfl rfl ?_
  refine aw_aload_n 4 dX2_growBoth_3 rfl rfl ?_
  obtain ⟨g1, H⟩ := H
  refine aw_getI 7 dX2_growBoth_4 rfl fl_X2_57 (by decide) g1 ?_
  refine aw_icmp_ge 43 10 dX2_growBoth_7 rfl (by decide) (fun c2 => ?_) (fun c2 => ?_)
  · replace H := H.1 c2
    exact aw_return dX2_growBoth_43 rfl (by decide) (by decide) ⟨rfl, H⟩
  · replace H := H.2 c2
    refine aw_aload_n 11 dX2_growBoth_10 rfl rfl ?_
    obtain ⟨g3, H⟩ := H
    refine aw_getR 14 dX2_growBoth_11 rfl fl_X2_18 ir_2_7 g1 rfl g3 ?_
    refine aw_iload_n 15 dX2_growBoth_14 rfl rfl ?_
    obtain ⟨g4, H⟩ := H
    obtain ⟨g5, H⟩ := H
    refine aw_iald 16 dX2_growBoth_15 rfl (Or.inl (shp g4)) g5 ?_
    refine aw_istore_n (loc' := [some (.ref a0), some (.int x1), some (.int (hI h (hR h a0 7) x1.toNatClampNeg))]) 17 dX2_growBoth_16 rfl (by decide) rfl ?_
    refine aw_iload_n 18 dX2_growBoth_17 rfl rfl ?_
    refine aw_iconst (v := (-1)) 19 dX2_growBoth_18 rfl (by decide) ?_
    refine aw_icmp_eq 37 22 dX2_growBoth_19 rfl (by decide) (fun c6 => ?_) (fun c6 => ?_)
    · replace H := H.1 c6
      refine aw_iinc (y := 1) (loc' := [some (.ref a0), some (.int (x1 + 1)), some (.int (hI h (hR h a0 7) x1.toNatClampNeg))]) 40 dX2_growBoth_37 rfl (by decide) rfl (by decide) rfl ?_
      refine aw_goto 2 dX2_growBoth_40 (by decide) ?_
      exact aw_fgt (by simp [leL]) H
    · replace H := H.2 c6
      refine aw_aload_n 23 dX2_growBoth_22 rfl rfl ?_
      refine aw_iload_n 24 dX2_growBoth_23 rfl rfl ?_
      refine aw_iload_n 25 dX2_growBoth_24 rfl rfl ?_
      refine aw_callV (stk := []) (ci := 2) [.int x1, .int (hI h (hR h a0 7) x1.toNatClampNeg)] 28 dX2_growBoth_25 rfl mv_X2_107 ⟨by decide, by decide⟩ g1 (by intro r hr; cases hr; rfl) rfl rfl (by simp [Value.category]) (by decide) H ?_
      rintro _ h1 ⟨r1, rfl, H⟩
      refine aw_if_eq 37 31 dX2_growBoth_28 rfl (by decide) (fun c7 => ?_) (fun c7 => ?_)
      · replace H := H.1 c7
        refine aw_iinc (y := 1) (loc' := [some (.ref a0), some (.int (x1 + 1)), some (.int (hI h (hR h a0 7) x1.toNatClampNeg))]) 40 dX2_growBoth_37 rfl (by decide) rfl (by decide) rfl ?_
        refine aw_goto 2 dX2_growBoth_40 (by decide) ?_
        exact aw_fgt (by simp [leL]) H
      · replace H := H.2 c7
        refine aw_aload_n 32 dX2_growBoth_31 rfl rfl ?_
        refine aw_iload_n 33 dX2_growBoth_32 rfl rfl ?_
        refine aw_iload_n 34 dX2_growBoth_33 rfl rfl ?_
        obtain ⟨g8, H⟩ := H
        refine aw_callV (stk := []) (ci := 2) [.int x1, .int (hI h (hR h a0 7) x1.toNatClampNeg)] 37 dX2_growBoth_34 rfl mv_X2_111 ⟨by decide, by decide⟩ g8 (by intro r hr; cases hr; rfl) rfl rfl (by simp [Value.category]) (by decide) H ?_
        rintro _ h2 ⟨rfl, H⟩
        refine aw_iinc (y := 1) (loc' := [some (.ref a0), some (.int (x1 + 1)), some (.int (hI h (hR h a0 7) x1.toNatClampNeg))]) 40 dX2_growBoth_37 rfl (by decide) rfl (by decide) rfl ?_
        refine aw_goto 2 dX2_growBoth_40 (by decide) ?_
        exact aw_fgt (by simp [leL]) H
set_option maxHeartbeats 4000000 in
set_option maxRecDepth 100000 in
theorem sX2_growOnce_0 {w : Wd} {Q : Int32 → Hp → Prop} {h : Hp} {a0 : Nat} (H : AW w mX2_growOnce 0 0 (rI Q) 0 0 4 [some (.ref a0), some (.int 0), some (.int 0), none] [] h) : AW w mX2_growOnce 0 0 (rI Q) 0 0 0 [some (.ref a0), none, none, none] [] h := by
  refine aw_iconst (v := 0) 1 dX2_growOnce_0 rfl (by decide) ?_
  refine aw_istore_n (loc' := [some (.ref a0), some (.int 0), none, none]) 2 dX2_growOnce_1 rfl (by decide) rfl ?_
  refine aw_iconst (v := 0) 3 dX2_growOnce_2 rfl (by decide) ?_
  refine aw_istore_n (loc' := [some (.ref a0), some (.int 0), some (.int 0), none]) 4 dX2_growOnce_3 rfl (by decide) rfl ?_
  exact H
theorem eX2_growOnce {w : Wd} {Q : Int32 → Hp → Prop} {h : Hp} {a0 : Nat} (H : AW w mX2_growOnce 0 0 (rI Q) 0 0 0 [some (.ref a0), none, none, none] [] h) : AC w mX2_growOnce 0 0 (rI Q) [.ref a0] h := AC.ofL (by decide) (by simp [enl, Value.category]) (by simp [leL, enl, Value.category]) H
set_option maxHeartbeats 4000000 in
set_option maxRecDepth 100000 in
theorem sX2_growOnce_4 {w : Wd} {Q : Int32 → Hp → Prop} {h : Hp} {a0 : Nat} {x1 : Int32} {x2 : Int32} (H : (hs h a0).1 = 22 ∧ (((hI h a0 5) ≤ x2 → (x1 = 0 ∨ x1 = 1) ∧ Q x1 h) ∧ (¬ (hI h a0 5) ≤ x2 → AW w mX2_growOnce 0 0 (rI Q) 0 0 14 [some (.ref a0), some (.int x1), some (.int x2), some (.int 0)] [] h))) : AW w mX2_growOnce 0 0 (rI Q) 0 0 4 [some (.ref a0), some (.int x1), some (.int x2), none] [] h := by
  refine aw_iload_n 5 dX2_growOnce_4 rfl rfl ?_
  refine aw_aload_n 6 dX2_growOnce_5 rfl rfl ?_
  obtain ⟨g1, H⟩ := H
  refine aw_getI 9 dX2_growOnce_6 rfl fl_X2_57 (by decide) g1 ?_
  refine aw_icmp_ge 51 12 dX2_growOnce_9 rfl (by decide) (fun c2 => ?_) (fun c2 => ?_)
  · replace H := H.1 c2
    refine aw_iload_n 52 dX2_growOnce_51 rfl rfl ?_
    obtain ⟨g3, H⟩ := H
    exact aw_zreturn dX2_growOnce_52 rfl g3 (by decide) (by decide) ⟨_, rfl, H⟩
  · replace H := H.2 c2
    refine aw_iconst (v := 0) 13 dX2_growOnce_12 rfl (by decide) ?_
    refine aw_istore_n (loc' := [some (.ref a0), some (.int x1), some (.int x2), some (.int 0)]) 14 dX2_growOnce_13 rfl (by decide) rfl ?_
    exact H
set_option maxHeartbeats 4000000 in
set_option maxRecDepth 100000 in
theorem sX2_growOnce_14 {w : Wd} {Q : Int32 → Hp → Prop} {h : Hp} {a0 : Nat} {x1 : Int32} {x2 : Int32} {x3 : Int32} (H : (hs h a0).1 = 22 ∧ (((hI h a0 6) ≤ x3 → AW w mX2_growOnce 0 0 (rI Q) 0 0 4 [some (.ref a0), some (.int x1), some (.int (x2 + 1)), none] [] h) ∧ (¬ (hI h a0 6) ≤ x3 → AC w mX2_mayGrow 0 0 (rI fun r1 h1 => ((r1 = 0 → AW w mX2_growOnce 0 0 (rI Q) 0 0 14 [some (.ref a0), some (.int x1), some (.int x2), some (.int (x3 + 1))] [] h1) ∧ (¬ r1 = 0 → (hs h1 a0).1 = 22 ∧ AC w mX2_addGrown 0 0 (rV fun h2 => AW w mX2_growOnce 0 0 (rI Q) 0 0 14 [some (.ref a0), some (.int 1), some (.int x2), some (.int (x3 + 1))] [] h2) [.ref a0, .int x2, .int x3] h1))) [.ref a0, .int x2, .int x3] h))) : AW w mX2_growOnce 0 0 (rI Q) 0 0 14 [some (.ref a0), some (.int x1), some (.int x2), some (.int x3)] [] h := by
  refine aw_iload_n 15 dX2_growOnce_14 rfl rfl ?_
  refine aw_aload_n 16 dX2_growOnce_15 rfl rfl ?_
  obtain ⟨g1, H⟩ := H
  refine aw_getI 19 dX2_growOnce_16 rfl fl_X2_67 (by decide) g1 ?_
  refine aw_icmp_ge 45 22 dX2_growOnce_19 rfl (by decide) (fun c2 => ?_) (fun c2 => ?_)
  · replace H := H.1 c2
    refine aw_iinc (y := 1) (loc' := [some (.ref a0), some (.int x1), some (.int (x2 + 1)), some (.int x3)]) 48 dX2_growOnce_45 rfl (by decide) rfl (by decide) rfl ?_
    refine aw_goto 4 dX2_growOnce_48 (by decide) ?_
    exact aw_fgt (by simp [leL]) H
  · replace H := H.2 c2
    refine aw_aload_n 23 dX2_growOnce_22 rfl rfl ?_
    refine aw_iload_n 24 dX2_growOnce_23 rfl rfl ?_
    refine aw_iload_n 25 dX2_growOnce_24 rfl rfl ?_
    refine aw_callV (stk := []) (ci := 2) [.int x2, .int x3] 28 dX2_growOnce_25 rfl mv_X2_115 ⟨by decide, by decide⟩ g1 (by intro r hr; cases hr; rfl) rfl rfl (by simp [Value.category]) (by decide) H ?_
    rintro _ h1 ⟨r1, rfl, H⟩
    refine aw_if_eq 39 31 dX2_growOnce_28 rfl (by decide) (fun c3 => ?_) (fun c3 => ?_)
    · replace H := H.1 c3
      refine aw_iinc (y := 1) (loc' := [some (.ref a0), some (.int x1), some (.int x2), some (.int (x3 + 1))]) 42 dX2_growOnce_39 rfl (by decide) rfl (by decide) rfl ?_
      refine aw_goto 14 dX2_growOnce_42 (by decide) ?_
      exact H
    · replace H := H.2 c3
      refine aw_aload_n 32 dX2_growOnce_31 rfl rfl ?_
      refine aw_iload_n 33 dX2_growOnce_32 rfl rfl ?_
      refine aw_iload_n 34 dX2_growOnce_33 rfl rfl ?_
      obtain ⟨g4, H⟩ := H
      refine aw_callV (stk := []) (ci := 2) [.int x2, .int x3] 37 dX2_growOnce_34 rfl mv_X2_111 ⟨by decide, by decide⟩ g4 (by intro r hr; cases hr; rfl) rfl rfl (by simp [Value.category]) (by decide) H ?_
      rintro _ h2 ⟨rfl, H⟩
      refine aw_iconst (v := 1) 38 dX2_growOnce_37 rfl (by decide) ?_
      refine aw_istore_n (loc' := [some (.ref a0), some (.int 1), some (.int x2), some (.int x3)]) 39 dX2_growOnce_38 rfl (by decide) rfl ?_
      refine aw_iinc (y := 1) (loc' := [some (.ref a0), some (.int 1), some (.int x2), some (.int (x3 + 1))]) 42 dX2_growOnce_39 rfl (by decide) rfl (by decide) rfl ?_
      refine aw_goto 14 dX2_growOnce_42 (by decide) ?_
      exact H
set_option maxHeartbeats 4000000 in
set_option maxRecDepth 100000 in
theorem sX2_mayGrow_0 {w : Wd} {Q : Int32 → Hp → Prop} {h : Hp} {a0 : Nat} {x1 : Int32} {x2 : Int32} (H : (hs h a0).1 = 22 ∧ hR h a0 7 ≠ 0 ∧ (hs h (hR h a0 7)).1 = 1 ∧ vp_in x1 (hs h (hR h a0 7)).2 ∧ (((hI h (hR h a0 7) x1.toNatClampNeg) = x2 → AW w mX2_mayGrow 0 0 (rI Q) 0 0 25 [some (.ref a0), some (.int x1), some (.int x2), none, none] [.int 1] h) ∧ (¬ (hI h (hR h a0 7) x1.toNatClampNeg) = x2 → hR h a0 8 ≠ 0 ∧ (hs h (hR h a0 8)).1 = 1 ∧ vp_in x2 (hs h (hR h a0 8)).2 ∧ ((¬ (hI h (hR h a0 8) x2.toNatClampNeg) = x1 → AW w mX2_mayGrow 0 0 (rI Q) 0 0 25 [some (.ref a0), some (.int x1), some (.int x2), none, none] [.int 0] h) ∧ ((hI h (hR h a0 8) x2.toNatClampNeg) = x1 → AW w mX2_mayGrow 0 0 (rI Q) 0 0 25 [some (.ref a0), some (.int x1), some (.int x2), none, none] [.int 1] h))))) : AW w mX2_mayGrow 0 0 (rI Q) 0 0 0 [some (.ref a0), some (.int x1), some (.int x2), none, none] [] h := by
  refine aw_aload_n 1 dX2_mayGrow_0 rfl rfl ?_
  obtain ⟨g1, H⟩ := H
  obtain ⟨g2, H⟩ := H
  refine aw_getR 4 dX2_mayGrow_1 rfl fl_X2_18 ir_2_7 g1 rfl g2 ?_
  refine aw_iload_n 5 dX2_mayGrow_4 rfl rfl ?_
  obtain ⟨g3, H⟩ := H
  obtain ⟨g4, H⟩ := H
  refine aw_iald 6 dX2_mayGrow_5 rfl (Or.inl (shp g3)) g4 ?_
  refine aw_iload_n 7 dX2_mayGrow_6 rfl rfl ?_
  refine aw_icmp_eq 20 10 dX2_mayGrow_7 rfl (by decide) (fun c5 => ?_) (fun c5 => ?_)
  · replace H := H.1 c5
    refine aw_iconst (v := 1) 21 dX2_mayGrow_20 rfl (by decide) ?_
    refine aw_goto 25 dX2_mayGrow_21 (by decide) ?_
    exact H
  · replace H := H.2 c5
    refine aw_aload_n 11 dX2_mayGrow_10 rfl rfl ?_
    obtain ⟨g6, H⟩ := H
    refine aw_getR 14 dX2_mayGrow_11 rfl fl_X2_21 ir_2_8 g1 rfl g6 ?_
    refine aw_iload_n 15 dX2_mayGrow_14 rfl rfl ?_
    obtain ⟨g7, H⟩ := H
    obtain ⟨g8, H⟩ := H
    refine aw_iald 16 dX2_mayGrow_15 rfl (Or.inl (shp g7)) g8 ?_
    refine aw_iload_n 17 dX2_mayGrow_16 rfl rfl ?_
    refine aw_icmp_ne 24 20 dX2_mayGrow_17 rfl (by decide) (fun c9 => ?_) (fun c9 => ?_)
    · replace H := H.1 c9
      refine aw_iconst (v := 0) 25 dX2_mayGrow_24 rfl (by decide) ?_
      exact H
    · replace H := H.2 c9
      refine aw_iconst (v := 1) 21 dX2_mayGrow_20 rfl (by decide) ?_
      refine aw_goto 25 dX2_mayGrow_21 (by decide) ?_
      exact H
theorem eX2_mayGrow {w : Wd} {Q : Int32 → Hp → Prop} {h : Hp} {a0 : Nat} {x1 : Int32} {x2 : Int32} (H : AW w mX2_mayGrow 0 0 (rI Q) 0 0 0 [some (.ref a0), some (.int x1), some (.int x2), none, none] [] h) : AC w mX2_mayGrow 0 0 (rI Q) [.ref a0, .int x1, .int x2] h := AC.ofL (by decide) (by simp [enl, Value.category]) (by simp [leL, enl, Value.category]) H
set_option maxHeartbeats 4000000 in
set_option maxRecDepth 100000 in
theorem sX2_mayGrow_25 {w : Wd} {Q : Int32 → Hp → Prop} {h : Hp} {a0 : Nat} {x1 : Int32} {x2 : Int32} {y0 : Int32} (H : (hs h a0).1 = 22 ∧ hR h a0 9 ≠ 0 ∧ (hs h (hR h a0 9)).1 = 1 ∧ vp_in x1 (hs h (hR h a0 9)).2 ∧ (((hI h (hR h a0 9) x1.toNatClampNeg) = 0 → AW w mX2_mayGrow 0 0 (rI Q) 0 0 49 [some (.ref a0), some (.int x1), some (.int x2), some (.int y0), none] [.int 1] h) ∧ (¬ (hI h (hR h a0 9) x1.toNatClampNeg) = 0 → hR h a0 10 ≠ 0 ∧ (hs h (hR h a0 10)).1 = 1 ∧ vp_in x2 (hs h (hR h a0 10)).2 ∧ ((¬ (hI h (hR h a0 10) x2.toNatClampNeg) = 0 → AW w mX2_mayGrow 0 0 (rI Q) 0 0 49 [some (.ref a0), some (.int x1), some (.int x2), some (.int y0), none] [.int 0] h) ∧ ((hI h (hR h a0 10) x2.toNatClampNeg) = 0 → AW w mX2_mayGrow 0 0 (rI Q) 0 0 49 [some (.ref a0), some (.int x1), some (.int x2), some (.int y0), none] [.int 1] h))))) : AW w mX2_mayGrow 0 0 (rI Q) 0 0 25 [some (.ref a0), some (.int x1), some (.int x2), none, none] [.int y0] h := by
  refine aw_istore_n (loc' := [some (.ref a0), some (.int x1), some (.int x2), some (.int y0), none]) 26 dX2_mayGrow_25 rfl (by decide) rfl ?_
  refine aw_aload_n 27 dX2_mayGrow_26 rfl rfl ?_
  obtain ⟨g1, H⟩ := H
  obtain ⟨g2, H⟩ := H
  refine aw_getR 30 dX2_mayGrow_27 rfl fl_X2_24 ir_2_9 g1 rfl g2 ?_
  refine aw_iload_n 31 dX2_mayGrow_30 rfl rfl ?_
  obtain ⟨g3, H⟩ := H
  obtain ⟨g4, H⟩ := H
  refine aw_iald 32 dX2_mayGrow_31 rfl (Or.inl (shp g3)) g4 ?_
  refine aw_if_eq 44 35 dX2_mayGrow_32 rfl (by decide) (fun c5 => ?_) (fun c5 => ?_)
  · replace H := H.1 c5
    refine aw_iconst (v := 1) 45 dX2_mayGrow_44 rfl (by decide) ?_
    refine aw_goto 49 dX2_mayGrow_45 (by decide) ?_
    exact H
  · replace H := H.2 c5
    refine aw_aload_n 36 dX2_mayGrow_35 rfl rfl ?_
    obtain ⟨g6, H⟩ := H
    refine aw_getR 39 dX2_mayGrow_36 rfl fl_X2_27 ir_2_10 g1 rfl g6 ?_
    refine aw_iload_n 40 dX2_mayGrow_39 rfl rfl ?_
    obtain ⟨g7, H⟩ := H
    obtain ⟨g8, H⟩ := H
    refine aw_iald 41 dX2_mayGrow_40 rfl (Or.inl (shp g7)) g8 ?_
    refine aw_if_ne 48 44 dX2_mayGrow_41 rfl (by decide) (fun c9 => ?_) (fun c9 => ?_)
    · replace H := H.1 c9
      refine aw_iconst (v := 0) 49 dX2_mayGrow_48 rfl (by decide) ?_
      exact H
    · replace H := H.2 c9
      refine aw_iconst (v := 1) 45 dX2_mayGrow_44 rfl (by decide) ?_
      refine aw_goto 49 dX2_mayGrow_45 (by decide) ?_
      exact H
set_option maxHeartbeats 4000000 in
set_option maxRecDepth 100000 in
theorem sX2_mayGrow_49 {w : Wd} {Q : Int32 → Hp → Prop} {h : Hp} {a0 : Nat} {x1 : Int32} {x2 : Int32} {x3 : Int32} {y0 : Int32} (H : ((x3 = 0 → Q 0 h) ∧ (¬ x3 = 0 → ((y0 = 0 → Q 0 h) ∧ (¬ y0 = 0 → (hs h a0).1 = 22 ∧ AC w mX2_isGrown 0 0 (rI fun r1 h1 => ((¬ r1 = 0 → Q 0 h1) ∧ (r1 = 0 → (hs h1 a0).1 = 22 ∧ AC w mX2_touchesGrown 0 0 (rI fun r2 h2 => ((r2 = 0 → Q 0 h2) ∧ (¬ r2 = 0 → Q 1 h2))) [.ref a0, .int x1, .int x2] h1))) [.ref a0, .int x1, .int x2] h))))) : AW w mX2_mayGrow 0 0 (rI Q) 0 0 49 [some (.ref a0), some (.int x1), some (.int x2), some (.int x3), none] [.int y0] h := by
  refine aw_istore (loc' := [some (.ref a0), some (.int x1), some (.int x2), some (.int x3), some (.int y0)]) 51 dX2_mayGrow_49 rfl (by decide) rfl ?_
  refine aw_iload_n 52 dX2_mayGrow_51 rfl rfl ?_
  refine aw_if_eq 82 55 dX2_mayGrow_52 rfl (by decide) (fun c1 => ?_) (fun c1 => ?_)
  · replace H := H.1 c1
    refine aw_iconst (v := 0) 83 dX2_mayGrow_82 rfl (by decide) ?_
    exact aw_zreturn dX2_mayGrow_83 rfl (by decide) (by decide) (by decide) ⟨_, rfl, H⟩
  · replace H := H.2 c1
    refine aw_iload 57 dX2_mayGrow_55 rfl rfl ?_
    refine aw_if_eq 82 60 dX2_mayGrow_57 rfl (by decide) (fun c2 => ?_) (fun c2 => ?_)
    · replace H := H.1 c2
      refine aw_iconst (v := 0) 83 dX2_mayGrow_82 rfl (by decide) ?_
      exact aw_zreturn dX2_mayGrow_83 rfl (by decide) (by decide) (by decide) ⟨_, rfl, H⟩
    · replace H := H.2 c2
      refine aw_aload_n 61 dX2_mayGrow_60 rfl rfl ?_
      refine aw_iload_n 62 dX2_mayGrow_61 rfl rfl ?_
      refine aw_iload_n 63 dX2_mayGrow_62 rfl rfl ?_
      obtain ⟨g3, H⟩ := H
      refine aw_callV (stk := []) (ci := 2) [.int x1, .int x2] 66 dX2_mayGrow_63 rfl mv_X2_118 ⟨by decide, by decide⟩ g3 (by intro r hr; cases hr; rfl) rfl rfl (by simp [Value.category]) (by decide) H ?_
      rintro _ h1 ⟨r1, rfl, H⟩
      refine aw_if_ne 82 69 dX2_mayGrow_66 rfl (by decide) (fun c4 => ?_) (fun c4 => ?_)
      · replace H := H.1 c4
        refine aw_iconst (v := 0) 83 dX2_mayGrow_82 rfl (by decide) ?_
        exact aw_zreturn dX2_mayGrow_83 rfl (by decide) (by decide) (by decide) ⟨_, rfl, H⟩
      · replace H := H.2 c4
        refine aw_aload_n 70 dX2_mayGrow_69 rfl rfl ?_
        refine aw_iload_n 71 dX2_mayGrow_70 rfl rfl ?_
        refine aw_iload_n 72 dX2_mayGrow_71 rfl rfl ?_
        obtain ⟨g5, H⟩ := H
        refine aw_callV (stk := []) (ci := 2) [.int x1, .int x2] 75 dX2_mayGrow_72 rfl mv_X2_121 ⟨by decide, by decide⟩ g5 (by intro r hr; cases hr; rfl) rfl rfl (by simp [Value.category]) (by decide) H ?_
        rintro _ h2 ⟨r2, rfl, H⟩
        refine aw_if_eq 82 78 dX2_mayGrow_75 rfl (by decide) (fun c6 => ?_) (fun c6 => ?_)
        · replace H := H.1 c6
          refine aw_iconst (v := 0) 83 dX2_mayGrow_82 rfl (by decide) ?_
          exact aw_zreturn dX2_mayGrow_83 rfl (by decide) (by decide) (by decide) ⟨_, rfl, H⟩
        · replace H := H.2 c6
          refine aw_iconst (v := 1) 79 dX2_mayGrow_78 rfl (by decide) ?_
          refine aw_goto 83 dX2_mayGrow_79 (by decide) ?_
          exact aw_zreturn dX2_mayGrow_83 rfl (by decide) (by decide) (by decide) ⟨_, rfl, H⟩
set_option maxHeartbeats 4000000 in
set_option maxRecDepth 100000 in
theorem sX2_touchesGrown_0 {w : Wd} {Q : Int32 → Hp → Prop} {h : Hp} {a0 : Nat} {x1 : Int32} {x2 : Int32} (H : AW w mX2_touchesGrown 0 0 (rI Q) 0 0 16 [some (.ref a0), some (.int x1), none, some (.int (((7 <<< (x2 &&& 31)).toUInt32 >>> ((1 : Int32).toUInt32 &&& Int32.toUInt32 31)).toInt32)), some (.int (if (x1 - 1) < (0 : Int32) then 0 else (x1 - 1)))] [] h) : AW w mX2_touchesGrown 0 0 (rI Q) 0 0 0 [some (.ref a0), some (.int x1), some (.int x2), none, none] [] h := by
  refine aw_bipush (v := 7) 2 dX2_touchesGrown_0 rfl (by decide) ?_
  refine aw_iload_n 3 dX2_touchesGrown_2 rfl rfl ?_
  refine aw_ishl 4 dX2_touchesGrown_3 rfl ?_
  refine aw_iconst (v := 1) 5 dX2_touchesGrown_4 rfl (by decide) ?_
  refine aw_iushr 6 dX2_touchesGrown_5 rfl ?_
  refine aw_istore_n (loc' := [some (.ref a0), some (.int x1), some (.int x2), some (.int (((7 <<< (x2 &&& 31)).toUInt32 >>> ((1 : Int32).toUInt32 &&& Int32.toUInt32 31)).toInt32)), none]) 7 dX2_touchesGrown_6 rfl (by decide) rfl ?_
  refine aw_iload_n 8 dX2_touchesGrown_7 rfl rfl ?_
  refine aw_iconst (v := 1) 9 dX2_touchesGrown_8 rfl (by decide) ?_
  refine aw_isub 10 dX2_touchesGrown_9 rfl ?_
  refine aw_iconst (v := 0) 11 dX2_touchesGrown_10 rfl (by decide) ?_
  refine aw_mmax (stk := []) 14 dX2_touchesGrown_11 rfl mv_X2_124 (by decide) (by simp [Value.category]) (by decide) (by decide) ?_
  refine aw_istore (loc' := [some (.ref a0), some (.int x1), some (.int x2), some (.int (((7 <<< (x2 &&& 31)).toUInt32 >>> ((1 : Int32).toUInt32 &&& Int32.toUInt32 31)).toInt32)), some (.int (if (x1 - 1) < (0 : Int32) then 0 else (x1 - 1)))]) 16 dX2_touchesGrown_14 rfl (by decide) rfl ?_
  exact aw_fgt (by simp [leL]) H
theorem eX2_touchesGrown {w : Wd} {Q : Int32 → Hp → Prop} {h : Hp} {a0 : Nat} {x1 : Int32} {x2 : Int32} (H : AW w mX2_touchesGrown 0 0 (rI Q) 0 0 0 [some (.ref a0), some (.int x1), some (.int x2), none, none] [] h) : AC w mX2_touchesGrown 0 0 (rI Q) [.ref a0, .int x1, .int x2] h := AC.ofL (by decide) (by simp [enl, Value.category]) (by simp [leL, enl, Value.category]) H
set_option maxHeartbeats 4000000 in
set_option maxRecDepth 100000 in
theorem sX2_touchesGrown_16 {w : Wd} {Q : Int32 → Hp → Prop} {h : Hp} {a0 : Nat} {x1 : Int32} {x3 : Int32} {x4 : Int32} (H : (((x1 + 1) < x4 → Q 0 h) ∧ (¬ (x1 + 1) < x4 → (hs h a0).1 = 22 ∧ (((hI h a0 5) ≤ x4 → Q 0 h) ∧ (¬ (hI h a0 5) ≤ x4 → hR h a0 9 ≠ 0 ∧ (hs h (hR h a0 9)).1 = 1 ∧ vp_in x4 (hs h (hR h a0 9)).2 ∧ ((((hI h (hR h a0 9) x4.toNatClampNeg) &&& x3) = 0 → AW w mX2_touchesGrown 0 0 (rI Q) 0 0 16 [some (.ref a0), some (.int x1), none, some (.int x3), some (.int (x4 + 1))] [] h) ∧ (¬ ((hI h (hR h a0 9) x4.toNatClampNeg) &&& x3) = 0 → Q 1 h))))))) : AW w mX2_touchesGrown 0 0 (rI Q) 0 0 16 [some (.ref a0), some (.int x1), none, some (.int x3), some (.int x4)] [] h := by
  refine aw_iload 18 dX2_touchesGrown_16 rfl rfl ?_
  refine aw_iload_n 19 dX2_touchesGrown_18 rfl rfl ?_
  refine aw_iconst (v := 1) 20 dX2_touchesGrown_19 rfl (by decide) ?_
  refine aw_iadd 21 dX2_touchesGrown_20 rfl ?_
  refine aw_icmp_gt 53 24 dX2_touchesGrown_21 rfl (by decide) (fun c1 => ?_) (fun c1 => ?_)
  · replace H := H.1 c1
    refine aw_iconst (v := 0) 54 dX2_touchesGrown_53 rfl (by decide) ?_
    exact aw_zreturn dX2_touchesGrown_54 rfl (by decide) (by decide) (by decide) ⟨_, rfl, H⟩
  · replace H := H.2 c1
    refine aw_iload 26 dX2_touchesGrown_24 rfl rfl ?_
    refine aw_aload_n 27 dX2_touchesGrown_26 rfl rfl ?_
    obtain ⟨g2, H⟩ := H
    refine aw_getI 30 dX2_touchesGrown_27 rfl fl_X2_57 (by decide) g2 ?_
    refine aw_icmp_ge 53 33 dX2_touchesGrown_30 rfl (by decide) (fun c3 => ?_) (fun c3 => ?_)
    · replace H := H.1 c3
      refine aw_iconst (v := 0) 54 dX2_touchesGrown_53 rfl (by decide) ?_
      exact aw_zreturn dX2_touchesGrown_54 rfl (by decide) (by decide) (by decide) ⟨_, rfl, H⟩
    · replace H := H.2 c3
      refine aw_aload_n 34 dX2_touchesGrown_33 rfl rfl ?_
      obtain ⟨g4, H⟩ := H
      refine aw_getR 37 dX2_touchesGrown_34 rfl fl_X2_24 ir_2_9 g2 rfl g4 ?_
      refine aw_iload 39 dX2_touchesGrown_37 rfl rfl ?_
      obtain ⟨g5, H⟩ := H
      obtain ⟨g6, H⟩ := H
      refine aw_iald 40 dX2_touchesGrown_39 rfl (Or.inl (shp g5)) g6 ?_
      refine aw_iload_n 41 dX2_touchesGrown_40 rfl rfl ?_
      refine aw_iand 42 dX2_touchesGrown_41 rfl ?_
      refine aw_if_eq 47 45 dX2_touchesGrown_42 rfl (by decide) (fun c7 => ?_) (fun c7 => ?_)
      · replace H := H.1 c7
        refine aw_iinc (y := 1) (loc' := [some (.ref a0), some (.int x1), none, some (.int x3), some (.int (x4 + 1))]) 50 dX2_touchesGrown_47 rfl (by decide) rfl (by decide) rfl ?_
        refine aw_goto 16 dX2_touchesGrown_50 (by decide) ?_
        exact H
      · replace H := H.2 c7
        refine aw_iconst (v := 1) 46 dX2_touchesGrown_45 rfl (by decide) ?_
        exact aw_zreturn dX2_touchesGrown_46 rfl (by decide) (by decide) (by decide) ⟨_, rfl, H⟩
set_option maxHeartbeats 4000000 in
set_option maxRecDepth 100000 in
theorem sX2_countRowPairs_0 {w : Wd} {Q : Int32 → Hp → Prop} {h : Hp} {a0 : Nat} (H : AW w mX2_countRowPairs 0 0 (rI Q) 0 0 4 [some (.ref a0), some (.int 0), some (.int 0), none] [] h) : AW w mX2_countRowPairs 0 0 (rI Q) 0 0 0 [some (.ref a0), none, none, none] [] h := by
  refine aw_iconst (v := 0) 1 dX2_countRowPairs_0 rfl (by decide) ?_
  refine aw_istore_n (loc' := [some (.ref a0), some (.int 0), none, none]) 2 dX2_countRowPairs_1 rfl (by decide) rfl ?_
  refine aw_iconst (v := 0) 3 dX2_countRowPairs_2 rfl (by decide) ?_
  refine aw_istore_n (loc' := [some (.ref a0), some (.int 0), some (.int 0), none]) 4 dX2_countRowPairs_3 rfl (by decide) rfl ?_
  exact H
theorem eX2_countRowPairs {w : Wd} {Q : Int32 → Hp → Prop} {h : Hp} {a0 : Nat} (H : AW w mX2_countRowPairs 0 0 (rI Q) 0 0 0 [some (.ref a0), none, none, none] [] h) : AC w mX2_countRowPairs 0 0 (rI Q) [.ref a0] h := AC.ofL (by decide) (by simp [enl, Value.category]) (by simp [leL, enl, Value.category]) H
set_option maxHeartbeats 4000000 in
set_option maxRecDepth 100000 in
theorem sX2_countRowPairs_4 {w : Wd} {Q : Int32 → Hp → Prop} {h : Hp} {a0 : Nat} {x1 : Int32} {x2 : Int32} (H : (hs h a0).1 = 22 ∧ (((hI h a0 5) ≤ x2 → Q x1 h) ∧ (¬ (hI h a0 5) ≤ x2 → AW w mX2_countRowPairs 0 0 (rI Q) 0 0 14 [some (.ref a0), some (.int x1), some (.int x2), some (.int 0)] [] h))) : AW w mX2_countRowPairs 0 0 (rI Q) 0 0 4 [some (.ref a0), some (.int x1), some (.int x2), none] [] h := by
  refine aw_iload_n 5 dX2_countRowPairs_4 rfl rfl ?_
  refine aw_aload_n 6 dX2_countRowPairs_5 rfl rfl ?_
  obtain ⟨g1, H⟩ := H
  refine aw_getI 9 dX2_countRowPairs_6 rfl fl_X2_57 (by decide) g1 ?_
  refine aw_icmp_ge 50 12 dX2_countRowPairs_9 rfl (by decide) (fun c2 => ?_) (fun c2 => ?_)
  · replace H := H.1 c2
    refine aw_iload_n 51 dX2_countRowPairs_50 rfl rfl ?_
    exact aw_ireturn dX2_countRowPairs_51 rfl (by decide) (by decide) ⟨_, rfl, H⟩
  · replace H := H.2 c2
    refine aw_iconst (v := 0) 13 dX2_countRowPairs_12 rfl (by decide) ?_
    refine aw_istore_n (loc' := [some (.ref a0), some (.int x1), some (.int x2), some (.int 0)]) 14 dX2_countRowPairs_13 rfl (by decide) rfl ?_
    exact H
set_option maxHeartbeats 4000000 in
set_option maxRecDepth 100000 in
theorem sX2_countRowPairs_14 {w : Wd} {Q : Int32 → Hp → Prop} {h : Hp} {a0 : Nat} {x1 : Int32} {x2 : Int32} {x3 : Int32} (H : ((3 < x3 → AW w mX2_countRowPairs 0 0 (rI Q) 0 0 4 [some (.ref a0), some (.int x1), some (.int (x2 + 1)), none] [] h) ∧ (¬ 3 < x3 → (hs h a0).1 = 22 ∧ (((hI h a0 5) ≤ (x2 + x3) → AW w mX2_countRowPairs 0 0 (rI Q) 0 0 4 [some (.ref a0), some (.int x1), some (.int (x2 + 1)), none] [] h) ∧ (¬ (hI h a0 5) ≤ (x2 + x3) → AC w mX2_countPartners 0 0 (rI fun r1 h1 => AW w mX2_countRowPairs 0 0 (rI Q) 0 0 14 [some (.ref a0), some (.int (x1 + r1)), some (.int x2), some (.int (x3 + 1))] [] h1) [.ref a0, .int x2, .int x3] h))))) : AW w mX2_countRowPairs 0 0 (rI Q) 0 0 14 [some (.ref a0), some (.int x1), some (.int x2), some (.int x3)] [] h := by
  refine aw_iload_n 15 dX2_countRowPairs_14 rfl rfl ?_
  refine aw_iconst (v := 3) 16 dX2_countRowPairs_15 rfl (by decide) ?_
  refine aw_icmp_gt 44 19 dX2_countRowPairs_16 rfl (by decide) (fun c1 => ?_) (fun c1 => ?_)
  · replace H := H.1 c1
    refine aw_iinc (y := 1) (loc' := [some (.ref a0), some (.int x1), some (.int (x2 + 1)), some (.int x3)]) 47 dX2_countRowPairs_44 rfl (by decide) rfl (by decide) rfl ?_
    refine aw_goto 4 dX2_countRowPairs_47 (by decide) ?_
    exact aw_fgt (by simp [leL]) H
  · replace H := H.2 c1
    refine aw_iload_n 20 dX2_countRowPairs_19 rfl rfl ?_
    refine aw_iload_n 21 dX2_countRowPairs_20 rfl rfl ?_
    refine aw_iadd 22 dX2_countRowPairs_21 rfl ?_
    refine aw_aload_n 23 dX2_countRowPairs_22 rfl rfl ?_
    obtain ⟨g2, H⟩ := H
    refine aw_getI 26 dX2_countRowPairs_23 rfl fl_X2_57 (by decide) g2 ?_
    refine aw_icmp_ge 44 29 dX2_countRowPairs_26 rfl (by decide) (fun c3 => ?_) (fun c3 => ?_)
    · replace H := H.1 c3
      refine aw_iinc (y := 1) (loc' := [some (.ref a0), some (.int x1), some (.int (x2 + 1)), some (.int x3)]) 47 dX2_countRowPairs_44 rfl (by decide) rfl (by decide) rfl ?_
      refine aw_goto 4 dX2_countRowPairs_47 (by decide) ?_
      exact aw_fgt (by simp [leL]) H
    · replace H := H.2 c3
      refine aw_iload_n 30 dX2_countRowPairs_29 rfl rfl ?_
      refine aw_aload_n 31 dX2_countRowPairs_30 rfl rfl ?_
      refine aw_iload_n 32 dX2_countRowPairs_31 rfl rfl ?_
      refine aw_iload_n 33 dX2_countRowPairs_32 rfl rfl ?_
      refine aw_callV (stk := [.int x1]) (ci := 2) [.int x2, .int x3] 36 dX2_countRowPairs_33 rfl mv_X2_128 ⟨by decide, by decide⟩ g2 (by intro r hr; cases hr; rfl) rfl rfl (by simp [Value.category]) (by decide) H ?_
      rintro _ h1 ⟨r1, rfl, H⟩
      refine aw_iadd 37 dX2_countRowPairs_36 rfl ?_
      refine aw_istore_n (loc' := [some (.ref a0), some (.int (x1 + r1)), some (.int x2), some (.int x3)]) 38 dX2_countRowPairs_37 rfl (by decide) rfl ?_
      refine aw_iinc (y := 1) (loc' := [some (.ref a0), some (.int (x1 + r1)), some (.int x2), some (.int (x3 + 1))]) 41 dX2_countRowPairs_38 rfl (by decide) rfl (by decide) rfl ?_
      refine aw_goto 14 dX2_countRowPairs_41 (by decide) ?_
      exact H
set_option maxHeartbeats 4000000 in
set_option maxRecDepth 100000 in
theorem sX2_countPartners_0 {w : Wd} {Q : Int32 → Hp → Prop} {h : Hp} {a0 : Nat} {x1 : Int32} {x2 : Int32} (H : (hs h a0).1 = 22 ∧ hR h a0 9 ≠ 0 ∧ AC w mX2_union 0 0 (rI fun r1 h1 => ((¬ r1 = 0 → AW w mX2_countPartners 0 0 (rI Q) 0 0 22 [some (.ref a0), some (.int x1), some (.int x2), some (.int r1), some (.int 0), some (.int 0), none, none] [] h1) ∧ (r1 = 0 → Q 0 h1))) [.ref (hR h a0 9), .int x1, .int x2] h) : AW w mX2_countPartners 0 0 (rI Q) 0 0 0 [some (.ref a0), some (.int x1), some (.int x2), none, none, none, none, none] [] h := by
  refine aw_aload_n 1 dX2_countPartners_0 rfl rfl ?_
  obtain ⟨g1, H⟩ := H
  obtain ⟨g2, H⟩ := H
  refine aw_getR 4 dX2_countPartners_1 rfl fl_X2_24 ir_2_9 g1 rfl g2 ?_
  refine aw_iload_n 5 dX2_countPartners_4 rfl rfl ?_
  refine aw_iload_n 6 dX2_countPartners_5 rfl rfl ?_
  refine aw_callS (stk := []) [.ref (hR h a0 9), .int x1, .int x2] 9 dX2_countPartners_6 rfl mv_X2_131 ⟨by decide, by decide⟩ rfl rfl (by simp [Value.category]) (by decide) H ?_
  rintro _ h1 ⟨r1, rfl, H⟩
  refine aw_istore_n (loc' := [some (.ref a0), some (.int x1), some (.int x2), some (.int r1), none, none, none, none]) 10 dX2_countPartners_9 rfl (by decide) rfl ?_
  refine aw_iload_n 11 dX2_countPartners_10 rfl rfl ?_
  refine aw_if_ne 16 14 dX2_countPartners_11 rfl (by decide) (fun c3 => ?_) (fun c3 => ?_)
  · replace H := H.1 c3
    refine aw_iconst (v := 0) 17 dX2_countPartners_16 rfl (by decide) ?_
    refine aw_istore (loc' := [some (.ref a0), some (.int x1), some (.int x2), some (.int r1), some (.int 0), none, none, none]) 19 dX2_countPartners_17 rfl (by decide) rfl ?_
    refine aw_iconst (v := 0) 20 dX2_countPartners_19 rfl (by decide) ?_
    refine aw_istore (loc' := [some (.ref a0), some (.int x1), some (.int x2), some (.int r1), some (.int 0), some (.int 0), none, none]) 22 dX2_countPartners_20 rfl (by decide) rfl ?_
    exact H
  · replace H := H.2 c3
    refine aw_iconst (v := 0) 15 dX2_countPartners_14 rfl (by decide) ?_
    exact aw_ireturn dX2_countPartners_15 rfl (by decide) (by decide) ⟨_, rfl, H⟩
theorem eX2_countPartners {w : Wd} {Q : Int32 → Hp → Prop} {h : Hp} {a0 : Nat} {x1 : Int32} {x2 : Int32} (H : AW w mX2_countPartners 0 0 (rI Q) 0 0 0 [some (.ref a0), some (.int x1), some (.int x2), none, none, none, none, none] [] h) : AC w mX2_countPartners 0 0 (rI Q) [.ref a0, .int x1, .int x2] h := AC.ofL (by decide) (by simp [enl, Value.category]) (by simp [leL, enl, Value.category]) H
set_option maxHeartbeats 4000000 in
set_option maxRecDepth 100000 in
theorem sX2_countPartners_22 {w : Wd} {Q : Int32 → Hp → Prop} {h : Hp} {a0 : Nat} {x1 : Int32} {x2 : Int32} {x3 : Int32} {x4 : Int32} {x5 : Int32} (H : (hs h a0).1 = 22 ∧ (((hI h a0 6) ≤ x5 → Q x4 h) ∧ (¬ (hI h a0 6) ≤ x5 → AW w mX2_countPartners 0 0 (rI Q) 0 0 34 [some (.ref a0), some (.int x1), some (.int x2), some (.int x3), some (.int x4), some (.int x5), some (.int 0), none] [] h))) : AW w mX2_countPartners 0 0 (rI Q) 0 0 22 [some (.ref a0), some (.int x1), some (.int x2), some (.int x3), some (.int x4), some (.int x5), none, none] [] h := by
  refine aw_iload 24 dX2_countPartners_22 rfl rfl ?_
  refine aw_aload_n 25 dX2_countPartners_24 rfl rfl ?_
  obtain ⟨g1, H⟩ := H
  refine aw_getI 28 dX2_countPartners_25 rfl fl_X2_67 (by decide) g1 ?_
  refine aw_icmp_ge 115 31 dX2_countPartners_28 rfl (by decide) (fun c2 => ?_) (fun c2 => ?_)
  · replace H := H.1 c2
    refine aw_iload 117 dX2_countPartners_115 rfl rfl ?_
    exact aw_ireturn dX2_countPartners_117 rfl (by decide) (by decide) ⟨_, rfl, H⟩
  · replace H := H.2 c2
    refine aw_iconst (v := 0) 32 dX2_countPartners_31 rfl (by decide) ?_
    refine aw_istore (loc' := [some (.ref a0), some (.int x1), some (.int x2), some (.int x3), some (.int x4), some (.int x5), some (.int 0), none]) 34 dX2_countPartners_32 rfl (by decide) rfl ?_
    exact H
set_option maxHeartbeats 4000000 in
set_option maxRecDepth 100000 in
theorem sX2_countPartners_34 {w : Wd} {Q : Int32 → Hp → Prop} {h : Hp} {a0 : Nat} {x1 : Int32} {x2 : Int32} {x3 : Int32} {x4 : Int32} {x5 : Int32} {x6 : Int32} (H : ((3 < x6 → AW w mX2_countPartners 0 0 (rI Q) 0 0 22 [some (.ref a0), some (.int x1), some (.int x2), some (.int x3), some (.int x4), some (.int (x5 + 1)), none, none] [] h) ∧ (¬ 3 < x6 → (hs h a0).1 = 22 ∧ (((hI h a0 6) ≤ (x5 + x6) → AW w mX2_countPartners 0 0 (rI Q) 0 0 22 [some (.ref a0), some (.int x1), some (.int x2), some (.int x3), some (.int x4), some (.int (x5 + 1)), none, none] [] h) ∧ (¬ (hI h a0 6) ≤ (x5 + x6) → AC w mX2_rowBits 0 0 (rI fun r1 h1 => ((¬ (x3 &&& (r1 ^^^ (-1))) = 0 → AW w mX2_countPartners 0 0 (rI Q) 0 0 71 [some (.ref a0), some (.int x1), some (.int x2), some (.int x3), some (.int x4), some (.int x5), some (.int x6), none] [.int 0] h1) ∧ ((x3 &&& (r1 ^^^ (-1))) = 0 → AW w mX2_countPartners 0 0 (rI Q) 0 0 71 [some (.ref a0), some (.int x1), some (.int x2), some (.int x3), some (.int x4), some (.int x5), some (.int x6), none] [.int 1] h1))) [.int x5, .int x6] h))))) : AW w mX2_countPartners 0 0 (rI Q) 0 0 34 [some (.ref a0), some (.int x1), some (.int x2), some (.int x3), some (.int x4), some (.int x5), some (.int x6), none] [] h := by
  refine aw_iload 36 dX2_countPartners_34 rfl rfl ?_
  refine aw_iconst (v := 3) 37 dX2_countPartners_36 rfl (by decide) ?_
  refine aw_icmp_gt 109 40 dX2_countPartners_37 rfl (by decide) (fun c1 => ?_) (fun c1 => ?_)
  · replace H := H.1 c1
    refine aw_iinc (y := 1) (loc' := [some (.ref a0), some (.int x1), some (.int x2), some (.int x3), some (.int x4), some (.int (x5 + 1)), some (.int x6), none]) 112 dX2_countPartners_109 rfl (by decide) rfl (by decide) rfl ?_
    refine aw_goto 22 dX2_countPartners_112 (by decide) ?_
    exact aw_fgt (by simp [leL]) H
  · replace H := H.2 c1
    refine aw_iload 42 dX2_countPartners_40 rfl rfl ?_
    refine aw_iload 44 dX2_countPartners_42 rfl rfl ?_
    refine aw_iadd 45 dX2_countPartners_44 rfl ?_
    refine aw_aload_n 46 dX2_countPartners_45 rfl rfl ?_
    obtain ⟨g2, H⟩ := H
    refine aw_getI 49 dX2_countPartners_46 rfl fl_X2_67 (by decide) g2 ?_
    refine aw_icmp_ge 109 52 dX2_countPartners_49 rfl (by decide) (fun c3 => ?_) (fun c3 => ?_)
    · replace H := H.1 c3
      refine aw_iinc (y := 1) (loc' := [some (.ref a0), some (.int x1), some (.int x2), some (.int x3), some (.int x4), some (.int (x5 + 1)), some (.int x6), none]) 112 dX2_countPartners_109 rfl (by decide) rfl (by decide) rfl ?_
      refine aw_goto 22 dX2_countPartners_112 (by decide) ?_
      exact aw_fgt (by simp [leL]) H
    · replace H := H.2 c3
      refine aw_iload_n 53 dX2_countPartners_52 rfl rfl ?_
      refine aw_iload 55 dX2_countPartners_53 rfl rfl ?_
      refine aw_iload 57 dX2_countPartners_55 rfl rfl ?_
      refine aw_callS (stk := [.int x3]) [.int x5, .int x6] 60 dX2_countPartners_57 rfl mv_X2_135 ⟨by decide, by decide⟩ rfl rfl (by simp [Value.category]) (by decide) H ?_
      rintro _ h1 ⟨r1, rfl, H⟩
      refine aw_iconst (v := (-1)) 61 dX2_countPartners_60 rfl (by decide) ?_
      refine aw_ixor 62 dX2_countPartners_61 rfl ?_
      refine aw_iand 63 dX2_countPartners_62 rfl ?_
      refine aw_if_ne 70 66 dX2_countPartners_63 rfl (by decide) (fun c4 => ?_) (fun c4 => ?_)
      · replace H := H.1 c4
        refine aw_iconst (v := 0) 71 dX2_countPartners_70 rfl (by decide) ?_
        exact H
      · replace H := H.2 c4
        refine aw_iconst (v := 1) 67 dX2_countPartners_66 rfl (by decide) ?_
        refine aw_goto 71 dX2_countPartners_67 (by decide) ?_
        exact H
set_option maxHeartbeats 4000000 in
set_option maxRecDepth 100000 in
theorem sX2_countPartners_71 {w : Wd} {Q : Int32 → Hp → Prop} {h : Hp} {a0 : Nat} {x1 : Int32} {x2 : Int32} {x3 : Int32} {x4 : Int32} {x5 : Int32} {x6 : Int32} {y0 : Int32} (H : ((y0 = 0 → AW w mX2_countPartners 0 0 (rI Q) 0 0 34 [some (.ref a0), some (.int x1), some (.int x2), some (.int x3), some (.int x4), some (.int x5), some (.int (x6 + 1)), none] [] h) ∧ (¬ y0 = 0 → (hs h a0).1 = 22 ∧ hR h a0 10 ≠ 0 ∧ AC w mX2_union 0 0 (rI fun r1 h1 => AC w mX2_rowBits 0 0 (rI fun r2 h2 => ((¬ (r1 &&& (r2 ^^^ (-1))) = 0 → AW w mX2_countPartners 0 0 (rI Q) 0 0 34 [some (.ref a0), some (.int x1), some (.int x2), some (.int x3), some (.int x4), some (.int x5), some (.int (x6 + 1)), none] [] h2) ∧ ((r1 &&& (r2 ^^^ (-1))) = 0 → AW w mX2_countPartners 0 0 (rI Q) 0 0 34 [some (.ref a0), some (.int x1), some (.int x2), some (.int x3), some (.int (x4 + 1)), some (.int x5), some (.int (x6 + 1)), none] [] h2))) [.int x1, .int x2] h1) [.ref (hR h a0 10), .int x5, .int x6] h))) : AW w mX2_countPartners 0 0 (rI Q) 0 0 71 [some (.ref a0), some (.int x1), some (.int x2), some (.int x3), some (.int x4), some (.int x5), some (.int x6), none] [.int y0] h := by
  refine aw_istore (loc' := [some (.ref a0), some (.int x1), some (.int x2), some (.int x3), some (.int x4), some (.int x5), some (.int x6), some (.int y0)]) 73 dX2_countPartners_71 rfl (by decide) rfl ?_
  refine aw_iload 75 dX2_countPartners_73 rfl rfl ?_
  refine aw_if_eq 103 78 dX2_countPartners_75 rfl (by decide) (fun c1 => ?_) (fun c1 => ?_)
  · replace H := H.1 c1
    refine aw_iinc (y := 1) (loc' := [some (.ref a0), some (.int x1), some (.int x2), some (.int x3), some (.int x4), some (.int x5), some (.int (x6 + 1)), some (.int y0)]) 106 dX2_countPartners_103 rfl (by decide) rfl (by decide) rfl ?_
    refine aw_goto 34 dX2_countPartners_106 (by decide) ?_
    exact aw_fgt (by simp [leL]) H
  · replace H := H.2 c1
    refine aw_aload_n 79 dX2_countPartners_78 rfl rfl ?_
    obtain ⟨g2, H⟩ := H
    obtain ⟨g3, H⟩ := H
    refine aw_getR 82 dX2_countPartners_79 rfl fl_X2_27 ir_2_10 g2 rfl g3 ?_
    refine aw_iload 84 dX2_countPartners_82 rfl rfl ?_
    refine aw_iload 86 dX2_countPartners_84 rfl rfl ?_
    refine aw_callS (stk := []) [.ref (hR h a0 10), .int x5, .int x6] 89 dX2_countPartners_86 rfl mv_X2_131 ⟨by decide, by decide⟩ rfl rfl (by simp [Value.category]) (by decide) H ?_
    rintro _ h1 ⟨r1, rfl, H⟩
    refine aw_iload_n 90 dX2_countPartners_89 rfl rfl ?_
    refine aw_iload_n 91 dX2_countPartners_90 rfl rfl ?_
    refine aw_callS (stk := [.int r1]) [.int x1, .int x2] 94 dX2_countPartners_91 rfl mv_X2_135 ⟨by decide, by decide⟩ rfl rfl (by simp [Value.category]) (by decide) H ?_
    rintro _ h2 ⟨r2, rfl, H⟩
    refine aw_iconst (v := (-1)) 95 dX2_countPartners_94 rfl (by decide) ?_
    refine aw_ixor 96 dX2_countPartners_95 rfl ?_
    refine aw_iand 97 dX2_countPartners_96 rfl ?_
    refine aw_if_ne 103 100 dX2_countPartners_97 rfl (by decide) (fun c4 => ?_) (fun c4 => ?_)
    · replace H := H.1 c4
      refine aw_iinc (y := 1) (loc' := [some (.ref a0), some (.int x1), some (.int x2), some (.int x3), some (.int x4), some (.int x5), some (.int (x6 + 1)), some (.int y0)]) 106 dX2_countPartners_103 rfl (by decide) rfl (by decide) rfl ?_
      refine aw_goto 34 dX2_countPartners_106 (by decide) ?_
      exact aw_fgt (by simp [leL]) H
    · replace H := H.2 c4
      refine aw_iinc (y := 1) (loc' := [some (.ref a0), some (.int x1), some (.int x2), some (.int x3), some (.int (x4 + 1)), some (.int x5), some (.int x6), some (.int y0)]) 103 dX2_countPartners_100 rfl (by decide) rfl (by decide) rfl ?_
      refine aw_iinc (y := 1) (loc' := [some (.ref a0), some (.int x1), some (.int x2), some (.int x3), some (.int (x4 + 1)), some (.int x5), some (.int (x6 + 1)), some (.int y0)]) 106 dX2_countPartners_103 rfl (by decide) rfl (by decide) rfl ?_
      refine aw_goto 34 dX2_countPartners_106 (by decide) ?_
      exact aw_fgt (by simp [leL]) H
set_option maxHeartbeats 4000000 in
set_option maxRecDepth 100000 in
theorem sX2_union_0 {w : Wd} {Q : Int32 → Hp → Prop} {h : Hp} {a0 : Nat} {x1 : Int32} {x2 : Int32} (H : AW w mX2_union 0 0 (rI Q) 0 0 5 [some (.ref a0), some (.int x1), some (.int x2), some (.int 0), some (.int x1)] [] h) : AW w mX2_union 0 0 (rI Q) 0 0 0 [some (.ref a0), some (.int x1), some (.int x2), none, none] [] h := by
  refine aw_iconst (v := 0) 1 dX2_union_0 rfl (by decide) ?_
  refine aw_istore_n (loc' := [some (.ref a0), some (.int x1), some (.int x2), some (.int 0), none]) 2 dX2_union_1 rfl (by decide) rfl ?_
  refine aw_iload_n 3 dX2_union_2 rfl rfl ?_
  refine aw_istore (loc' := [some (.ref a0), some (.int x1), some (.int x2), some (.int 0), some (.int x1)]) 5 dX2_union_3 rfl (by decide) rfl ?_
  exact H
theorem eX2_union {w : Wd} {Q : Int32 → Hp → Prop} {h : Hp} {a0 : Nat} {x1 : Int32} {x2 : Int32} (H : AW w mX2_union 0 0 (rI Q) 0 0 0 [some (.ref a0), some (.int x1), some (.int x2), none, none] [] h) : AC w mX2_union 0 0 (rI Q) [.ref a0, .int x1, .int x2] h := AC.ofL (by decide) (by simp [enl, Value.category]) (by simp [leL, enl, Value.category]) H
set_option maxHeartbeats 4000000 in
set_option maxRecDepth 100000 in
theorem sX2_union_5 {w : Wd} {Q : Int32 → Hp → Prop} {h : Hp} {a0 : Nat} {x1 : Int32} {x2 : Int32} {x3 : Int32} {x4 : Int32} (H : (((x1 + x2) < x4 → Q x3 h) ∧ (¬ (x1 + x2) < x4 → (hs h a0).1 = 1 ∧ vp_in x4 (hs h a0).2 ∧ AW w mX2_union 0 0 (rI Q) 0 0 5 [some (.ref a0), some (.int x1), some (.int x2), some (.int (x3 ||| (hI h a0 x4.toNatClampNeg))), some (.int (x4 + 1))] [] h))) : AW w mX2_union 0 0 (rI Q) 0 0 5 [some (.ref a0), some (.int x1), some (.int x2), some (.int x3), some (.int x4)] [] h := by
  refine aw_iload 7 dX2_union_5 rfl rfl ?_
  refine aw_iload_n 8 dX2_union_7 rfl rfl ?_
  refine aw_iload_n 9 dX2_union_8 rfl rfl ?_
  refine aw_iadd 10 dX2_union_9 rfl ?_
  refine aw_icmp_gt 26 13 dX2_union_10 rfl (by decide) (fun c1 => ?_) (fun c1 => ?_)
  · replace H := H.1 c1
    refine aw_iload_n 27 dX2_union_26 rfl rfl ?_
    exact aw_ireturn dX2_union_27 rfl (by decide) (by decide) ⟨_, rfl, H⟩
  · replace H := H.2 c1
    refine aw_iload_n 14 dX2_union_13 rfl rfl ?_
    refine aw_aload_n 15 dX2_union_14 rfl rfl ?_
    refine aw_iload 17 dX2_union_15 rfl rfl ?_
    obtain ⟨g2, H⟩ := H
    obtain ⟨g3, H⟩ := H
    refine aw_iald 18 dX2_union_17 rfl (Or.inl (shp g2)) g3 ?_
    refine aw_ior 19 dX2_union_18 rfl ?_
    refine aw_istore_n (loc' := [some (.ref a0), some (.int x1), some (.int x2), some (.int (x3 ||| (hI h a0 x4.toNatClampNeg))), some (.int x4)]) 20 dX2_union_19 rfl (by decide) rfl ?_
    refine aw_iinc (y := 1) (loc' := [some (.ref a0), some (.int x1), some (.int x2), some (.int (x3 ||| (hI h a0 x4.toNatClampNeg))), some (.int (x4 + 1))]) 23 dX2_union_20 rfl (by decide) rfl (by decide) rfl ?_
    refine aw_goto 5 dX2_union_23 (by decide) ?_
    exact H
set_option maxHeartbeats 4000000 in
set_option maxRecDepth 100000 in
theorem sX2_rowBits_0 {w : Wd} {Q : Int32 → Hp → Prop} {h : Hp} {x0 : Int32} {x1 : Int32} (H : Q (((1 <<< ((x1 + 1) &&& 31)) - 1) <<< (x0 &&& 31)) h) : AW w mX2_rowBits 0 0 (rI Q) 0 0 0 [some (.int x0), some (.int x1)] [] h := by
  refine aw_iconst (v := 1) 1 dX2_rowBits_0 rfl (by decide) ?_
  refine aw_iload_n 2 dX2_rowBits_1 rfl rfl ?_
  refine aw_iconst (v := 1) 3 dX2_rowBits_2 rfl (by decide) ?_
  refine aw_iadd 4 dX2_rowBits_3 rfl ?_
  refine aw_ishl 5 dX2_rowBits_4 rfl ?_
  refine aw_iconst (v := 1) 6 dX2_rowBits_5 rfl (by decide) ?_
  refine aw_isub 7 dX2_rowBits_6 rfl ?_
  refine aw_iload_n 8 dX2_rowBits_7 rfl rfl ?_
  refine aw_ishl 9 dX2_rowBits_8 rfl ?_
  exact aw_ireturn dX2_rowBits_9 rfl (by decide) (by decide) ⟨_, rfl, H⟩
theorem eX2_rowBits {w : Wd} {Q : Int32 → Hp → Prop} {h : Hp} {x0 : Int32} {x1 : Int32} (H : AW w mX2_rowBits 0 0 (rI Q) 0 0 0 [some (.int x0), some (.int x1)] [] h) : AC w mX2_rowBits 0 0 (rI Q) [.int x0, .int x1] h := AC.ofL (by decide) (by simp [enl, Value.category]) (by simp [leL, enl, Value.category]) H
set_option maxHeartbeats 4000000 in
set_option maxRecDepth 100000 in
theorem sX4_spread_0 {w : Wd} {Q : Hp → Prop} {h : Hp} {a0 : Nat} {x1 : Int32} {x2 : Int32} (H : (hs h a0).1 = 24 ∧ ∀ h1, h1 = sI h a0 3 x1 → ∀ h2, h2 = sI h1 a0 4 x2 → hR h a0 2 ≠ 0 ∧ AC w mJ7_fill_53178 0 0 (rV fun h3 => AW w mX4_spread 0 0 (rV Q) 0 0 20 [some (.ref a0), none, none, some (.int 0)] [] h3) [.ref (hR h a0 2), .int (-1)] h2) : AW w mX4_spread 0 0 (rV Q) 0 0 0 [some (.ref a0), some (.int x1), some (.int x2), none] [] h := by
  refine aw_aload_n 1 dX4_spread_0 rfl rfl ?_
  refine aw_iload_n 2 dX4_spread_1 rfl rfl ?_
  obtain ⟨g1, H⟩ := H
  refine aw_putI 5 dX4_spread_2 rfl fl_X4_31 (by decide) g1 nf_4_3 ?_
  replace H := H _ rfl
  refine aw_aload_n 6 dX4_spread_5 rfl rfl ?_
  refine aw_iload_n 7 dX4_spread_6 rfl rfl ?_
  refine aw_putI 10 dX4_spread_7 rfl fl_X4_35 (by decide) g1 nf_4_4 ?_
  replace H := H _ rfl
  refine aw_aload_n 11 dX4_spread_10 rfl rfl ?_
  obtain ⟨g2, H⟩ := H
  refine aw_getR 14 dX4_spread_11 rfl fl_X4_21 ir_4_2 g1 rfl g2 ?_
  refine aw_iconst (v := (-1)) 15 dX4_spread_14 rfl (by decide) ?_
  refine aw_callS (stk := []) [.ref (hR h a0 2), .int (-1)] 18 dX4_spread_15 rfl mv_X4_25 ⟨by decide, by decide⟩ rfl rfl (by simp [Value.category]) (by decide) H ?_
  rintro _ h3 ⟨rfl, H⟩
  refine aw_iconst (v := 0) 19 dX4_spread_18 rfl (by decide) ?_
  refine aw_istore_n (loc' := [some (.ref a0), some (.int x1), some (.int x2), some (.int 0)]) 20 dX4_spread_19 rfl (by decide) rfl ?_
  exact aw_fgt (by simp [leL]) H
theorem eX4_spread {w : Wd} {Q : Hp → Prop} {h : Hp} {a0 : Nat} {x1 : Int32} {x2 : Int32} (H : AW w mX4_spread 0 0 (rV Q) 0 0 0 [some (.ref a0), some (.int x1), some (.int x2), none] [] h) : AC w mX4_spread 0 0 (rV Q) [.ref a0, .int x1, .int x2] h := AC.ofL (by decide) (by simp [enl, Value.category]) (by simp [leL, enl, Value.category]) H
set_option maxHeartbeats 4000000 in
set_option maxRecDepth 100000 in
theorem sX4_spread_20 {w : Wd} {Q : Hp → Prop} {h : Hp} {a0 : Nat} {x3 : Int32} (H : (hs h a0).1 = 24 ∧ (((hI h a0 3) ≤ x3 → Q h) ∧ (¬ (hI h a0 3) ≤ x3 → hR h a0 0 ≠ 0 ∧ (hs h (hR h a0 0)).1 = 6 ∧ vp_in x3 (hs h (hR h a0 0)).2 ∧ hR h (hR h a0 0) x3.toNatClampNeg ≠ 0 ∧ ¬ ((hI h a0 4) + 1) = 0 ∧ AC w mJ7_fill_53178 0 0 (rV fun h1 => AW w mX4_spread 0 0 (rV Q) 0 0 20 [some (.ref a0), none, none, some (.int (x3 + 1))] [] h1) [.ref (hR h (hR h a0 0) x3.toNatClampNeg), .int (1048576 / ((hI h a0 4) + 1))] h))) : AW w mX4_spread 0 0 (rV Q) 0 0 20 [some (.ref a0), none, none, some (.int x3)] [] h := by
  refine aw_iload_n 21 dX4_spread_20 rfl rfl ?_
  refine aw_aload_n 22 dX4_spread_21 rfl rfl ?_
  obtain ⟨g1, H⟩ := H
  refine aw_getI 25 dX4_spread_22 rfl fl_X4_31 (by decide) g1 ?_
  refine aw_icmp_ge 52 28 dX4_spread_25 rfl (by decide) (fun c2 => ?_) (fun c2 => ?_)
  · replace H := H.1 c2
    exact aw_return dX4_spread_52 rfl (by decide) (by decide) ⟨rfl, H⟩
  · replace H := H.2 c2
    refine aw_aload_n 29 dX4_spread_28 rfl rfl ?_
    obtain ⟨g3, H⟩ := H
    refine aw_getR 32 dX4_spread_29 rfl fl_X4_11 ir_4_0 g1 rfl g3 ?_
    refine aw_iload_n 33 dX4_spread_32 rfl rfl ?_
    obtain ⟨g4, H⟩ := H
    obtain ⟨g5, H⟩ := H
    obtain ⟨g6, H⟩ := H
    refine aw_aald 34 dX4_spread_33 rfl (shp g4) (by decide) g5 rfl g6 ?_
    refine aw_ldc 36 dX4_spread_34 rfl kc_X4_38 ?_
    refine aw_aload_n 37 dX4_spread_36 rfl rfl ?_
    refine aw_getI 40 dX4_spread_37 rfl fl_X4_35 (by decide) g1 ?_
    refine aw_iconst (v := 1) 41 dX4_spread_40 rfl (by decide) ?_
    refine aw_iadd 42 dX4_spread_41 rfl ?_
    obtain ⟨g7, H⟩ := H
    refine aw_idiv 43 dX4_spread_42 rfl g7 ?_
    refine aw_callS (stk := []) [.ref (hR h (hR h a0 0) x3.toNatClampNeg), .int (1048576 / ((hI h a0 4) + 1))] 46 dX4_spread_43 rfl mv_X4_25 ⟨by decide, by decide⟩ rfl rfl (by simp [Value.category]) (by decide) H ?_
    rintro _ h1 ⟨rfl, H⟩
    refine aw_iinc (y := 1) (loc' := [some (.ref a0), none, none, some (.int (x3 + 1))]) 49 dX4_spread_46 rfl (by decide) rfl (by decide) rfl ?_
    refine aw_goto 20 dX4_spread_49 (by decide) ?_
    exact H
set_option maxHeartbeats 4000000 in
set_option maxRecDepth 100000 in
theorem sX4_startDealing_0 {w : Wd} {Q : Hp → Prop} {h : Hp} {a0 : Nat} (H : AW w mX4_startDealing 0 0 (rV Q) 0 0 2 [some (.ref a0), some (.int 0)] [] h) : AW w mX4_startDealing 0 0 (rV Q) 0 0 0 [some (.ref a0), none] [] h := by
  refine aw_iconst (v := 0) 1 dX4_startDealing_0 rfl (by decide) ?_
  refine aw_istore_n (loc' := [some (.ref a0), some (.int 0)]) 2 dX4_startDealing_1 rfl (by decide) rfl ?_
  exact H
theorem eX4_startDealing {w : Wd} {Q : Hp → Prop} {h : Hp} {a0 : Nat} (H : AW w mX4_startDealing 0 0 (rV Q) 0 0 0 [some (.ref a0), none] [] h) : AC w mX4_startDealing 0 0 (rV Q) [.ref a0] h := AC.ofL (by decide) (by simp [enl, Value.category]) (by simp [leL, enl, Value.category]) H
set_option maxHeartbeats 4000000 in
set_option maxRecDepth 100000 in
theorem sX4_startDealing_2 {w : Wd} {Q : Hp → Prop} {h : Hp} {a0 : Nat} {x1 : Int32} (H : (hs h a0).1 = 24 ∧ (((hI h a0 3) ≤ x1 → Q h) ∧ (¬ (hI h a0 3) ≤ x1 → hR h a0 1 ≠ 0 ∧ (hs h (hR h a0 1)).1 = 8 ∧ vp_in x1 (hs h (hR h a0 1)).2 ∧ hR h (hR h a0 1) x1.toNatClampNeg ≠ 0 ∧ AC w mJ7_fill_d0a16 0 0 (rV fun h1 => AW w mX4_startDealing 0 0 (rV Q) 0 0 2 [some (.ref a0), some (.int (x1 + 1))] [] h1) [.ref (hR h (hR h a0 1) x1.toNatClampNeg), .long 0] h))) : AW w mX4_startDealing 0 0 (rV Q) 0 0 2 [some (.ref a0), some (.int x1)] [] h := by
  refine aw_iload_n 3 dX4_startDealing_2 rfl rfl ?_
  refine aw_aload_n 4 dX4_startDealing_3 rfl rfl ?_
  obtain ⟨g1, H⟩ := H
  refine aw_getI 7 dX4_startDealing_4 rfl fl_X4_31 (by decide) g1 ?_
  refine aw_icmp_ge 26 10 dX4_startDealing_7 rfl (by decide) (fun c2 => ?_) (fun c2 => ?_)
  · replace H := H.1 c2
    exact aw_return dX4_startDealing_26 rfl (by decide) (by decide) ⟨rfl, H⟩
  · replace H := H.2 c2
    refine aw_aload_n 11 dX4_startDealing_10 rfl rfl ?_
    obtain ⟨g3, H⟩ := H
    refine aw_getR 14 dX4_startDealing_11 rfl fl_X4_18 ir_4_1 g1 rfl g3 ?_
    refine aw_iload_n 15 dX4_startDealing_14 rfl rfl ?_
    obtain ⟨g4, H⟩ := H
    obtain ⟨g5, H⟩ := H
    obtain ⟨g6, H⟩ := H
    refine aw_aald 16 dX4_startDealing_15 rfl (shp g4) (by decide) g5 rfl g6 ?_
    refine aw_lconst (v := 0) 17 dX4_startDealing_16 rfl (by decide) ?_
    refine aw_callS (stk := []) [.ref (hR h (hR h a0 1) x1.toNatClampNeg), .long 0] 20 dX4_startDealing_17 rfl mv_X4_39 ⟨by decide, by decide⟩ rfl rfl (by simp [Value.category]) (by decide) H ?_
    rintro _ h1 ⟨rfl, H⟩
    refine aw_iinc (y := 1) (loc' := [some (.ref a0), some (.int (x1 + 1))]) 23 dX4_startDealing_20 rfl (by decide) rfl (by decide) rfl ?_
    refine aw_goto 2 dX4_startDealing_23 (by decide) ?_
    exact H
