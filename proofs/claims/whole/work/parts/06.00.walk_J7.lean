set_option maxHeartbeats 4000000 in
set_option maxRecDepth 100000 in
theorem sJ7_fill_d0a16_0 {w : Wd} {Q : Hp → Prop} {h : Hp} {a0 : Nat} {l1 : Int64} (H : (hs h a0).1 = 5 ∧ AW w mJ7_fill_d0a16 0 0 (rV Q) 0 0 6 [some (.ref a0), some (.long l1), none, some (.int 0), some (.int (Int32.ofNat (hs h a0).2))] [] h) : AW w mJ7_fill_d0a16 0 0 (rV Q) 0 0 0 [some (.ref a0), some (.long l1), none, none, none] [] h := by
  refine aw_iconst (v := 0) 1 dJ7_fill_d0a16_0 rfl (by decide) ?_
  refine aw_istore_n (loc' := [some (.ref a0), some (.long l1), none, some (.int 0), none]) 2 dJ7_fill_d0a16_1 rfl (by decide) rfl ?_
  refine aw_aload_n 3 dJ7_fill_d0a16_2 rfl rfl ?_
  obtain ⟨g1, H⟩ := H
  refine aw_alen 4 dJ7_fill_d0a16_3 rfl (Or.inr (Or.inr (shp g1))) rfl ?_
  refine aw_istore (loc' := [some (.ref a0), some (.long l1), none, some (.int 0), some (.int (Int32.ofNat (hs h a0).2))]) 6 dJ7_fill_d0a16_4 rfl (by decide) rfl ?_
  exact H
theorem eJ7_fill_d0a16 {w : Wd} {Q : Hp → Prop} {h : Hp} {a0 : Nat} {l1 : Int64} (H : AW w mJ7_fill_d0a16 0 0 (rV Q) 0 0 0 [some (.ref a0), some (.long l1), none, none, none] [] h) : AC w mJ7_fill_d0a16 0 0 (rV Q) [.ref a0, .long l1] h := AC.ofL (by decide) (by simp [enl, Value.category]) (by simp [leL, enl, Value.category]) H
set_option maxHeartbeats 4000000 in
set_option maxRecDepth 100000 in
theorem sJ7_fill_d0a16_6 {w : Wd} {Q : Hp → Prop} {h : Hp} {a0 : Nat} {l1 : Int64} {x3 : Int32} {x4 : Int32} (H : ((x4 ≤ x3 → Q h) ∧ (¬ x4 ≤ x3 → (hs h a0).1 = 5 ∧ vp_in x3 (hs h a0).2 ∧ ∀ h1, h1 = sL h a0 x3.toNatClampNeg l1 → AW w mJ7_fill_d0a16 0 0 (rV Q) 0 0 6 [some (.ref a0), some (.long l1), none, some (.int (x3 + 1)), some (.int x4)] [] h1))) : AW w mJ7_fill_d0a16 0 0 (rV Q) 0 0 6 [some (.ref a0), some (.long l1), none, some (.int x3), some (.int x4)] [] h := by
  refine aw_iload_n 7 dJ7_fill_d0a16_6 rfl rfl ?_
  refine aw_iload 9 dJ7_fill_d0a16_7 rfl rfl ?_
  refine aw_icmp_ge 22 12 dJ7_fill_d0a16_9 rfl (by decide) (fun c1 => ?_) (fun c1 => ?_)
  · replace H := H.1 c1
    exact aw_return dJ7_fill_d0a16_22 rfl (by decide) (by decide) ⟨rfl, H⟩
  · replace H := H.2 c1
    refine aw_aload_n 13 dJ7_fill_d0a16_12 rfl rfl ?_
    refine aw_iload_n 14 dJ7_fill_d0a16_13 rfl rfl ?_
    refine aw_lload_n 15 dJ7_fill_d0a16_14 rfl rfl ?_
    obtain ⟨g2, H⟩ := H
    obtain ⟨g3, H⟩ := H
    refine aw_last 16 dJ7_fill_d0a16_15 rfl (shp g2) g3 ?_
    replace H := H _ rfl
    refine aw_iinc (y := 1) (loc' := [some (.ref a0), some (.long l1), none, some (.int (x3 + 1)), some (.int x4)]) 19 dJ7_fill_d0a16_16 rfl (by decide) rfl (by decide) rfl ?_
    refine aw_goto 6 dJ7_fill_d0a16_19 (by decide) ?_
    exact H
set_option maxHeartbeats 4000000 in
set_option maxRecDepth 100000 in
theorem sJ7_fill_53178_0 {w : Wd} {Q : Hp → Prop} {h : Hp} {a0 : Nat} {x1 : Int32} (H : (hs h a0).1 = 1 ∧ AW w mJ7_fill_53178 0 0 (rV Q) 0 0 5 [some (.ref a0), some (.int x1), some (.int 0), some (.int (Int32.ofNat (hs h a0).2))] [] h) : AW w mJ7_fill_53178 0 0 (rV Q) 0 0 0 [some (.ref a0), some (.int x1), none, none] [] h := by
  refine aw_iconst (v := 0) 1 dJ7_fill_53178_0 rfl (by decide) ?_
  refine aw_istore_n (loc' := [some (.ref a0), some (.int x1), some (.int 0), none]) 2 dJ7_fill_53178_1 rfl (by decide) rfl ?_
  refine aw_aload_n 3 dJ7_fill_53178_2 rfl rfl ?_
  obtain ⟨g1, H⟩ := H
  refine aw_alen 4 dJ7_fill_53178_3 rfl (Or.inl (shp g1)) rfl ?_
  refine aw_istore_n (loc' := [some (.ref a0), some (.int x1), some (.int 0), some (.int (Int32.ofNat (hs h a0).2))]) 5 dJ7_fill_53178_4 rfl (by decide) rfl ?_
  exact H
theorem eJ7_fill_53178 {w : Wd} {Q : Hp → Prop} {h : Hp} {a0 : Nat} {x1 : Int32} (H : AW w mJ7_fill_53178 0 0 (rV Q) 0 0 0 [some (.ref a0), some (.int x1), none, none] [] h) : AC w mJ7_fill_53178 0 0 (rV Q) [.ref a0, .int x1] h := AC.ofL (by decide) (by simp [enl, Value.category]) (by simp [leL, enl, Value.category]) H
set_option maxHeartbeats 4000000 in
set_option maxRecDepth 100000 in
theorem sJ7_fill_53178_5 {w : Wd} {Q : Hp → Prop} {h : Hp} {a0 : Nat} {x1 : Int32} {x2 : Int32} {x3 : Int32} (H : ((x3 ≤ x2 → Q h) ∧ (¬ x3 ≤ x2 → (hs h a0).1 = 1 ∧ vp_in x2 (hs h a0).2 ∧ ∀ h1, h1 = sI h a0 x2.toNatClampNeg x1 → AW w mJ7_fill_53178 0 0 (rV Q) 0 0 5 [some (.ref a0), some (.int x1), some (.int (x2 + 1)), some (.int x3)] [] h1))) : AW w mJ7_fill_53178 0 0 (rV Q) 0 0 5 [some (.ref a0), some (.int x1), some (.int x2), some (.int x3)] [] h := by
  refine aw_iload_n 6 dJ7_fill_53178_5 rfl rfl ?_
  refine aw_iload_n 7 dJ7_fill_53178_6 rfl rfl ?_
  refine aw_icmp_ge 20 10 dJ7_fill_53178_7 rfl (by decide) (fun c1 => ?_) (fun c1 => ?_)
  · replace H := H.1 c1
    exact aw_return dJ7_fill_53178_20 rfl (by decide) (by decide) ⟨rfl, H⟩
  · replace H := H.2 c1
    refine aw_aload_n 11 dJ7_fill_53178_10 rfl rfl ?_
    refine aw_iload_n 12 dJ7_fill_53178_11 rfl rfl ?_
    refine aw_iload_n 13 dJ7_fill_53178_12 rfl rfl ?_
    obtain ⟨g2, H⟩ := H
    obtain ⟨g3, H⟩ := H
    refine aw_iast 14 dJ7_fill_53178_13 rfl (shp g2) g3 ?_
    replace H := H _ rfl
    refine aw_iinc (y := 1) (loc' := [some (.ref a0), some (.int x1), some (.int (x2 + 1)), some (.int x3)]) 17 dJ7_fill_53178_14 rfl (by decide) rfl (by decide) rfl ?_
    refine aw_goto 5 dJ7_fill_53178_17 (by decide) ?_
    exact H
set_option maxHeartbeats 4000000 in
set_option maxRecDepth 100000 in
theorem sX6_append_0 {w : Wd} {Q : Hp → Prop} {h : Hp} {a0 : Nat} {x1 : Int32} (H : AW w mX6_append 0 0 (rV Q) 0 0 3 [some (.ref a0), some (.int x1), some (.int 24)] [] h) : AW w mX6_append 0 0 (rV Q) 0 0 0 [some (.ref a0), some (.int x1), none] [] h := by
  refine aw_bipush (v := 24) 2 dX6_append_0 rfl (by decide) ?_
  refine aw_istore_n (loc' := [some (.ref a0), some (.int x1), some (.int 24)]) 3 dX6_append_2 rfl (by decide) rfl ?_
  exact H
theorem eX6_append {w : Wd} {Q : Hp → Prop} {h : Hp} {a0 : Nat} {x1 : Int32} (H : AW w mX6_append 0 0 (rV Q) 0 0 0 [some (.ref a0), some (.int x1), none] [] h) : AC w mX6_append 0 0 (rV Q) [.ref a0, .int x1] h := AC.ofL (by decide) (by simp [enl, Value.category]) (by simp [leL, enl, Value.category]) H
set_option maxHeartbeats 4000000 in
set_option maxRecDepth 100000 in
theorem sX6_append_3 {w : Wd} {Q : Hp → Prop} {h : Hp} {a0 : Nat} {x1 : Int32} {x2 : Int32} (H : ((x2 < 0 → Q h) ∧ (¬ x2 < 0 → (hs h a0).1 = 26 ∧ ((1600 ≤ (hI h a0 1) → Q h) ∧ (¬ 1600 ≤ (hI h a0 1) → hR h a0 0 ≠ 0 ∧ (hs h (hR h a0 0)).1 = 2 ∧ vp_in (hI h a0 1) (hs h (hR h a0 0)).2 ∧ ∀ h1, h1 = sI h (hR h a0 0) (hI h a0 1).toNatClampNeg (vp_nar .byte (((x1.toUInt32 >>> (x2.toUInt32 &&& Int32.toUInt32 31)).toInt32).toInt8.toInt32)) → ∀ h2, h2 = sI h1 a0 1 ((hI h1 a0 1) + 1) → AW w mX6_append 0 0 (rV Q) 0 0 3 [some (.ref a0), some (.int x1), some (.int (x2 + (-8)))] [] h2))))) : AW w mX6_append 0 0 (rV Q) 0 0 3 [some (.ref a0), some (.int x1), some (.int x2)] [] h := by
  refine aw_iload_n 4 dX6_append_3 rfl rfl ?_
  refine aw_if_lt 46 7 dX6_append_4 rfl (by decide) (fun c1 => ?_) (fun c1 => ?_)
  · replace H := H.1 c1
    exact aw_return dX6_append_46 rfl (by decide) (by decide) ⟨rfl, H⟩
  · replace H := H.2 c1
    refine aw_aload_n 8 dX6_append_7 rfl rfl ?_
    obtain ⟨g2, H⟩ := H
    refine aw_getI 11 dX6_append_8 rfl fl_X6_15 (by decide) g2 ?_
    refine aw_sipush (v := 1600) 14 dX6_append_11 rfl (by decide) ?_
    refine aw_icmp_ge 46 17 dX6_append_14 rfl (by decide) (fun c3 => ?_) (fun c3 => ?_)
    · replace H := H.1 c3
      exact aw_return dX6_append_46 rfl (by decide) (by decide) ⟨rfl, H⟩
    · replace H := H.2 c3
      refine aw_aload_n 18 dX6_append_17 rfl rfl ?_
      obtain ⟨g4, H⟩ := H
      refine aw_getR 21 dX6_append_18 rfl fl_X6_9 ir_6_0 g2 rfl g4 ?_
      refine aw_aload_n 22 dX6_append_21 rfl rfl ?_
      refine aw_getI 25 dX6_append_22 rfl fl_X6_15 (by decide) g2 ?_
      refine aw_iload_n 26 dX6_append_25 rfl rfl ?_
      refine aw_iload_n 27 dX6_append_26 rfl rfl ?_
      refine aw_iushr 28 dX6_append_27 rfl ?_
      refine aw_i2b 29 dX6_append_28 rfl ?_
      obtain ⟨g5, H⟩ := H
      obtain ⟨g6, H⟩ := H
      refine aw_bast 30 dX6_append_29 rfl (shp g5) g6 ?_
      replace H := H _ rfl
      refine aw_aload_n 31 dX6_append_30 rfl rfl ?_
      refine aw_dup 32 dX6_append_31 rfl rfl ?_
      refine aw_getI 35 dX6_append_32 rfl fl_X6_15 (by decide) g2 ?_
      refine aw_iconst (v := 1) 36 dX6_append_35 rfl (by decide) ?_
      refine aw_iadd 37 dX6_append_36 rfl ?_
      refine aw_putI 40 dX6_append_37 rfl fl_X6_15 (by decide) g2 nf_6_1 ?_
      replace H := H _ rfl
      refine aw_iinc (y := (-8)) (loc' := [some (.ref a0), some (.int x1), some (.int (x2 + (-8)))]) 43 dX6_append_40 rfl (by decide) rfl (by decide) rfl ?_
      refine aw_goto 3 dX6_append_43 (by decide) ?_
      exact H
set_option maxHeartbeats 4000000 in
set_option maxRecDepth 100000 in
theorem sX6_isLetterAt_0 {w : Wd} {Q : Int32 → Hp → Prop} {h : Hp} {a0 : Nat} {x1 : Int32} (H : ((x1 < 0 → Q 0 h) ∧ (¬ x1 < 0 → (hs h a0).1 = 26 ∧ ((x1 < (hI h a0 1) → hR h a0 0 ≠ 0 ∧ (hs h (hR h a0 0)).1 = 2 ∧ vp_in x1 (hs h (hR h a0 0)).2 ∧ (((hI h (hR h a0 0) x1.toNatClampNeg) < 97 → (((hI h (hR h a0 0) x1.toNatClampNeg) < 65 → AW w mX6_isLetterAt 0 0 (rI Q) 0 0 45 [some (.ref a0), some (.int x1), some (.int (hI h (hR h a0 0) x1.toNatClampNeg))] [] h) ∧ (¬ (hI h (hR h a0 0) x1.toNatClampNeg) < 65 → (((hI h (hR h a0 0) x1.toNatClampNeg) ≤ 90 → Q 1 h) ∧ (¬ (hI h (hR h a0 0) x1.toNatClampNeg) ≤ 90 → AW w mX6_isLetterAt 0 0 (rI Q) 0 0 45 [some (.ref a0), some (.int x1), some (.int (hI h (hR h a0 0) x1.toNatClampNeg))] [] h))))) ∧ (¬ (hI h (hR h a0 0) x1.toNatClampNeg) < 97 → (((hI h (hR h a0 0) x1.toNatClampNeg) ≤ 122 → Q 1 h) ∧ (¬ (hI h (hR h a0 0) x1.toNatClampNeg) ≤ 122 → (((hI h (hR h a0 0) x1.toNatClampNeg) < 65 → AW w mX6_isLetterAt 0 0 (rI Q) 0 0 45 [some (.ref a0), some (.int x1), some (.int (hI h (hR h a0 0) x1.toNatClampNeg))] [] h) ∧ (¬ (hI h (hR h a0 0) x1.toNatClampNeg) < 65 → (((hI h (hR h a0 0) x1.toNatClampNeg) ≤ 90 → Q 1 h) ∧ (¬ (hI h (hR h a0 0) x1.toNatClampNeg) ≤ 90 → AW w mX6_isLetterAt 0 0 (rI Q) 0 0 45 [some (.ref a0), some (.int x1), some (.int (hI h (hR h a0 0) x1.toNatClampNeg))] [] h))))))))) ∧ (¬ x1 < (hI h a0 1) → Q 0 h))))) : AW w mX6_isLetterAt 0 0 (rI Q) 0 0 0 [some (.ref a0), some (.int x1), none] [] h := by
  refine aw_iload_n 1 dX6_isLetterAt_0 rfl rfl ?_
  refine aw_if_lt 12 4 dX6_isLetterAt_1 rfl (by decide) (fun c1 => ?_) (fun c1 => ?_)
  · replace H := H.1 c1
    refine aw_iconst (v := 0) 13 dX6_isLetterAt_12 rfl (by decide) ?_
    exact aw_zreturn dX6_isLetterAt_13 rfl (by decide) (by decide) (by decide) ⟨_, rfl, H⟩
  · replace H := H.2 c1
    refine aw_iload_n 5 dX6_isLetterAt_4 rfl rfl ?_
    refine aw_aload_n 6 dX6_isLetterAt_5 rfl rfl ?_
    obtain ⟨g2, H⟩ := H
    refine aw_getI 9 dX6_isLetterAt_6 rfl fl_X6_15 (by decide) g2 ?_
    refine aw_icmp_lt 14 12 dX6_isLetterAt_9 rfl (by decide) (fun c3 => ?_) (fun c3 => ?_)
    · replace H := H.1 c3
      refine aw_aload_n 15 dX6_isLetterAt_14 rfl rfl ?_
      obtain ⟨g4, H⟩ := H
      refine aw_getR 18 dX6_isLetterAt_15 rfl fl_X6_9 ir_6_0 g2 rfl g4 ?_
      refine aw_iload_n 19 dX6_isLetterAt_18 rfl rfl ?_
      obtain ⟨g5, H⟩ := H
      obtain ⟨g6, H⟩ := H
      refine aw_bald 20 dX6_isLetterAt_19 rfl (Or.inl (shp g5)) g6 ?_
      refine aw_istore_n (loc' := [some (.ref a0), some (.int x1), some (.int (hI h (hR h a0 0) x1.toNatClampNeg))]) 21 dX6_isLetterAt_20 rfl (by decide) rfl ?_
      refine aw_iload_n 22 dX6_isLetterAt_21 rfl rfl ?_
      refine aw_bipush (v := 97) 24 dX6_isLetterAt_22 rfl (by decide) ?_
      refine aw_icmp_lt 33 27 dX6_isLetterAt_24 rfl (by decide) (fun c7 => ?_) (fun c7 => ?_)
      · replace H := H.1 c7
        refine aw_iload_n 34 dX6_isLetterAt_33 rfl rfl ?_
        refine aw_bipush (v := 65) 36 dX6_isLetterAt_34 rfl (by decide) ?_
        refine aw_icmp_lt 45 39 dX6_isLetterAt_36 rfl (by decide) (fun c8 => ?_) (fun c8 => ?_)
        · replace H := H.1 c8
          exact H
        · replace H := H.2 c8
          refine aw_iload_n 40 dX6_isLetterAt_39 rfl rfl ?_
          refine aw_bipush (v := 90) 42 dX6_isLetterAt_40 rfl (by decide) ?_
          refine aw_icmp_le 79 45 dX6_isLetterAt_42 rfl (by decide) (fun c9 => ?_) (fun c9 => ?_)
          · replace H := H.1 c9
            refine aw_iconst (v := 1) 80 dX6_isLetterAt_79 rfl (by decide) ?_
            refine aw_goto 84 dX6_isLetterAt_80 (by decide) ?_
            exact aw_zreturn dX6_isLetterAt_84 rfl (by decide) (by decide) (by decide) ⟨_, rfl, H⟩
          · replace H := H.2 c9
            exact H
      · replace H := H.2 c7
        refine aw_iload_n 28 dX6_isLetterAt_27 rfl rfl ?_
        refine aw_bipush (v := 122) 30 dX6_isLetterAt_28 rfl (by decide) ?_
        refine aw_icmp_le 79 33 dX6_isLetterAt_30 rfl (by decide) (fun c10 => ?_) (fun c10 => ?_)
        · replace H := H.1 c10
          refine aw_iconst (v := 1) 80 dX6_isLetterAt_79 rfl (by decide) ?_
          refine aw_goto 84 dX6_isLetterAt_80 (by decide) ?_
          exact aw_zreturn dX6_isLetterAt_84 rfl (by decide) (by decide) (by decide) ⟨_, rfl, H⟩
        · replace H := H.2 c10
          refine aw_iload_n 34 dX6_isLetterAt_33 rfl rfl ?_
          refine aw_bipush (v := 65) 36 dX6_isLetterAt_34 rfl (by decide) ?_
          refine aw_icmp_lt 45 39 dX6_isLetterAt_36 rfl (by decide) (fun c11 => ?_) (fun c11 => ?_)
          · replace H := H.1 c11
            exact H
          · replace H := H.2 c11
            refine aw_iload_n 40 dX6_isLetterAt_39 rfl rfl ?_
            refine aw_bipush (v := 90) 42 dX6_isLetterAt_40 rfl (by decide) ?_
            refine aw_icmp_le 79 45 dX6_isLetterAt_42 rfl (by decide) (fun c12 => ?_) (fun c12 => ?_)
            · replace H := H.1 c12
              refine aw_iconst (v := 1) 80 dX6_isLetterAt_79 rfl (by decide) ?_
              refine aw_goto 84 dX6_isLetterAt_80 (by decide) ?_
              exact aw_zreturn dX6_isLetterAt_84 rfl (by decide) (by decide) (by decide) ⟨_, rfl, H⟩
            · replace H := H.2 c12
              exact H
    · replace H := H.2 c3
      refine aw_iconst (v := 0) 13 dX6_isLetterAt_12 rfl (by decide) ?_
      exact aw_zreturn dX6_isLetterAt_13 rfl (by decide) (by decide) (by decide) ⟨_, rfl, H⟩
theorem eX6_isLetterAt {w : Wd} {Q : Int32 → Hp → Prop} {h : Hp} {a0 : Nat} {x1 : Int32} (H : AW w mX6_isLetterAt 0 0 (rI Q) 0 0 0 [some (.ref a0), some (.int x1), none] [] h) : AC w mX6_isLetterAt 0 0 (rI Q) [.ref a0, .int x1] h := AC.ofL (by decide) (by simp [enl, Value.category]) (by simp [leL, enl, Value.category]) H
set_option maxHeartbeats 4000000 in
set_option maxRecDepth 100000 in
theorem sX6_isLetterAt_45 {w : Wd} {Q : Int32 → Hp → Prop} {h : Hp} {a0 : Nat} {x1 : Int32} {x2 : Int32} (H : (hs h a0).1 = 26 ∧ AC w mX6_isDigitAt 0 0 (rI fun r1 h1 => ((¬ r1 = 0 → Q 1 h1) ∧ (r1 = 0 → ((¬ x2 = 46 → Q 0 h1) ∧ (x2 = 46 → (hs h1 a0).1 = 26 ∧ AC w mX6_isDigitAt 0 0 (rI fun r2 h2 => ((r2 = 0 → Q 0 h2) ∧ (¬ r2 = 0 → (hs h2 a0).1 = 26 ∧ AC w mX6_isDigitAt 0 0 (rI fun r3 h3 => ((r3 = 0 → Q 0 h3) ∧ (¬ r3 = 0 → Q 1 h3))) [.ref a0, .int (x1 + 1)] h2))) [.ref a0, .int (x1 - 1)] h1))))) [.ref a0, .int x1] h) : AW w mX6_isLetterAt 0 0 (rI Q) 0 0 45 [some (.ref a0), some (.int x1), some (.int x2)] [] h := by
  refine aw_aload_n 46 dX6_isLetterAt_45 rfl rfl ?_
  refine aw_iload_n 47 dX6_isLetterAt_46 rfl rfl ?_
  obtain ⟨g1, H⟩ := H
  refine aw_callV (stk := []) (ci := 6) [.int x1] 50 dX6_isLetterAt_47 rfl mv_X6_19 ⟨by decide, by decide⟩ g1 (by intro r hr; cases hr; rfl) rfl rfl (by simp [Value.category]) (by decide) H ?_
  rintro _ h1 ⟨r1, rfl, H⟩
  refine aw_if_ne 79 53 dX6_isLetterAt_50 rfl (by decide) (fun c2 => ?_) (fun c2 => ?_)
  · replace H := H.1 c2
    refine aw_iconst (v := 1) 80 dX6_isLetterAt_79 rfl (by decide) ?_
    refine aw_goto 84 dX6_isLetterAt_80 (by decide) ?_
    exact aw_zreturn dX6_isLetterAt_84 rfl (by decide) (by decide) (by decide) ⟨_, rfl, H⟩
  · replace H := H.2 c2
    refine aw_iload_n 54 dX6_isLetterAt_53 rfl rfl ?_
    refine aw_bipush (v := 46) 56 dX6_isLetterAt_54 rfl (by decide) ?_
    refine aw_icmp_ne 83 59 dX6_isLetterAt_56 rfl (by decide) (fun c3 => ?_) (fun c3 => ?_)
    · replace H := H.1 c3
      refine aw_iconst (v := 0) 84 dX6_isLetterAt_83 rfl (by decide) ?_
      exact aw_zreturn dX6_isLetterAt_84 rfl (by decide) (by decide) (by decide) ⟨_, rfl, H⟩
    · replace H := H.2 c3
      refine aw_aload_n 60 dX6_isLetterAt_59 rfl rfl ?_
      refine aw_iload_n 61 dX6_isLetterAt_60 rfl rfl ?_
      refine aw_iconst (v := 1) 62 dX6_isLetterAt_61 rfl (by decide) ?_
      refine aw_isub 63 dX6_isLetterAt_62 rfl ?_
      obtain ⟨g4, H⟩ := H
      refine aw_callV (stk := []) (ci := 6) [.int (x1 - 1)] 66 dX6_isLetterAt_63 rfl mv_X6_19 ⟨by decide, by decide⟩ g4 (by intro r hr; cases hr; rfl) rfl rfl (by simp [Value.category]) (by decide) H ?_
      rintro _ h2 ⟨r2, rfl, H⟩
      refine aw_if_eq 83 69 dX6_isLetterAt_66 rfl (by decide) (fun c5 => ?_) (fun c5 => ?_)
      · replace H := H.1 c5
        refine aw_iconst (v := 0) 84 dX6_isLetterAt_83 rfl (by decide) ?_
        exact aw_zreturn dX6_isLetterAt_84 rfl (by decide) (by decide) (by decide) ⟨_, rfl, H⟩
      · replace H := H.2 c5
        refine aw_aload_n 70 dX6_isLetterAt_69 rfl rfl ?_
        refine aw_iload_n 71 dX6_isLetterAt_70 rfl rfl ?_
        refine aw_iconst (v := 1) 72 dX6_isLetterAt_71 rfl (by decide) ?_
        refine aw_iadd 73 dX6_isLetterAt_72 rfl ?_
        obtain ⟨g6, H⟩ := H
        refine aw_callV (stk := []) (ci := 6) [.int (x1 + 1)] 76 dX6_isLetterAt_73 rfl mv_X6_19 ⟨by decide, by decide⟩ g6 (by intro r hr; cases hr; rfl) rfl rfl (by simp [Value.category]) (by decide) H ?_
        rintro _ h3 ⟨r3, rfl, H⟩
        refine aw_if_eq 83 79 dX6_isLetterAt_76 rfl (by decide) (fun c7 => ?_) (fun c7 => ?_)
        · replace H := H.1 c7
          refine aw_iconst (v := 0) 84 dX6_isLetterAt_83 rfl (by decide) ?_
          exact aw_zreturn dX6_isLetterAt_84 rfl (by decide) (by decide) (by decide) ⟨_, rfl, H⟩
        · replace H := H.2 c7
          refine aw_iconst (v := 1) 80 dX6_isLetterAt_79 rfl (by decide) ?_
          refine aw_goto 84 dX6_isLetterAt_80 (by decide) ?_
          exact aw_zreturn dX6_isLetterAt_84 rfl (by decide) (by decide) (by decide) ⟨_, rfl, H⟩
set_option maxHeartbeats 4000000 in
set_option maxRecDepth 100000 in
theorem sX6_isDigitAt_0 {w : Wd} {Q : Int32 → Hp → Prop} {h : Hp} {a0 : Nat} {x1 : Int32} (H : ((x1 < 0 → Q 0 h) ∧ (¬ x1 < 0 → (hs h a0).1 = 26 ∧ (((hI h a0 1) ≤ x1 → Q 0 h) ∧ (¬ (hI h a0 1) ≤ x1 → hR h a0 0 ≠ 0 ∧ (hs h (hR h a0 0)).1 = 2 ∧ vp_in x1 (hs h (hR h a0 0)).2 ∧ (((hI h (hR h a0 0) x1.toNatClampNeg) < 48 → Q 0 h) ∧ (¬ (hI h (hR h a0 0) x1.toNatClampNeg) < 48 → ((57 < (hI h (hR h a0 0) x1.toNatClampNeg) → Q 0 h) ∧ (¬ 57 < (hI h (hR h a0 0) x1.toNatClampNeg) → Q 1 h))))))))) : AW w mX6_isDigitAt 0 0 (rI Q) 0 0 0 [some (.ref a0), some (.int x1)] [] h := by
  refine aw_iload_n 1 dX6_isDigitAt_0 rfl rfl ?_
  refine aw_if_lt 38 4 dX6_isDigitAt_1 rfl (by decide) (fun c1 => ?_) (fun c1 => ?_)
  · replace H := H.1 c1
    refine aw_iconst (v := 0) 39 dX6_isDigitAt_38 rfl (by decide) ?_
    exact aw_zreturn dX6_isDigitAt_39 rfl (by decide) (by decide) (by decide) ⟨_, rfl, H⟩
  · replace H := H.2 c1
    refine aw_iload_n 5 dX6_isDigitAt_4 rfl rfl ?_
    refine aw_aload_n 6 dX6_isDigitAt_5 rfl rfl ?_
    obtain ⟨g2, H⟩ := H
    refine aw_getI 9 dX6_isDigitAt_6 rfl fl_X6_15 (by decide) g2 ?_
    refine aw_icmp_ge 38 12 dX6_isDigitAt_9 rfl (by decide) (fun c3 => ?_) (fun c3 => ?_)
    · replace H := H.1 c3
      refine aw_iconst (v := 0) 39 dX6_isDigitAt_38 rfl (by decide) ?_
      exact aw_zreturn dX6_isDigitAt_39 rfl (by decide) (by decide) (by decide) ⟨_, rfl, H⟩
    · replace H := H.2 c3
      refine aw_aload_n 13 dX6_isDigitAt_12 rfl rfl ?_
      obtain ⟨g4, H⟩ := H
      refine aw_getR 16 dX6_isDigitAt_13 rfl fl_X6_9 ir_6_0 g2 rfl g4 ?_
      refine aw_iload_n 17 dX6_isDigitAt_16 rfl rfl ?_
      obtain ⟨g5, H⟩ := H
      obtain ⟨g6, H⟩ := H
      refine aw_bald 18 dX6_isDigitAt_17 rfl (Or.inl (shp g5)) g6 ?_
      refine aw_bipush (v := 48) 20 dX6_isDigitAt_18 rfl (by decide) ?_
      refine aw_icmp_lt 38 23 dX6_isDigitAt_20 rfl (by decide) (fun c7 => ?_) (fun c7 => ?_)
      · replace H := H.1 c7
        refine aw_iconst (v := 0) 39 dX6_isDigitAt_38 rfl (by decide) ?_
        exact aw_zreturn dX6_isDigitAt_39 rfl (by decide) (by decide) (by decide) ⟨_, rfl, H⟩
      · replace H := H.2 c7
        refine aw_aload_n 24 dX6_isDigitAt_23 rfl rfl ?_
        refine aw_getR 27 dX6_isDigitAt_24 rfl fl_X6_9 ir_6_0 g2 rfl g4 ?_
        refine aw_iload_n 28 dX6_isDigitAt_27 rfl rfl ?_
        refine aw_bald 29 dX6_isDigitAt_28 rfl (Or.inl (shp g5)) g6 ?_
        refine aw_bipush (v := 57) 31 dX6_isDigitAt_29 rfl (by decide) ?_
        refine aw_icmp_gt 38 34 dX6_isDigitAt_31 rfl (by decide) (fun c8 => ?_) (fun c8 => ?_)
        · replace H := H.1 c8
          refine aw_iconst (v := 0) 39 dX6_isDigitAt_38 rfl (by decide) ?_
          exact aw_zreturn dX6_isDigitAt_39 rfl (by decide) (by decide) (by decide) ⟨_, rfl, H⟩
        · replace H := H.2 c8
          refine aw_iconst (v := 1) 35 dX6_isDigitAt_34 rfl (by decide) ?_
          refine aw_goto 39 dX6_isDigitAt_35 (by decide) ?_
          exact aw_zreturn dX6_isDigitAt_39 rfl (by decide) (by decide) (by decide) ⟨_, rfl, H⟩
theorem eX6_isDigitAt {w : Wd} {Q : Int32 → Hp → Prop} {h : Hp} {a0 : Nat} {x1 : Int32} (H : AW w mX6_isDigitAt 0 0 (rI Q) 0 0 0 [some (.ref a0), some (.int x1)] [] h) : AC w mX6_isDigitAt 0 0 (rI Q) [.ref a0, .int x1] h := AC.ofL (by decide) (by simp [enl, Value.category]) (by simp [leL, enl, Value.category]) H
set_option maxHeartbeats 4000000 in
set_option maxRecDepth 100000 in
theorem sX6_smallAt_0 {w : Wd} {Q : Int32 → Hp → Prop} {h : Hp} {a0 : Nat} {x1 : Int32} (H : ((x1 < 0 → Q 0 h) ∧ (¬ x1 < 0 → (hs h a0).1 = 26 ∧ ((x1 < (hI h a0 1) → hR h a0 0 ≠ 0 ∧ (hs h (hR h a0 0)).1 = 2 ∧ vp_in x1 (hs h (hR h a0 0)).2 ∧ (((hI h (hR h a0 0) x1.toNatClampNeg) < 65 → Q (hI h (hR h a0 0) x1.toNatClampNeg) h) ∧ (¬ (hI h (hR h a0 0) x1.toNatClampNeg) < 65 → ((90 < (hI h (hR h a0 0) x1.toNatClampNeg) → Q (hI h (hR h a0 0) x1.toNatClampNeg) h) ∧ (¬ 90 < (hI h (hR h a0 0) x1.toNatClampNeg) → Q (((hI h (hR h a0 0) x1.toNatClampNeg) - 65) + 97) h))))) ∧ (¬ x1 < (hI h a0 1) → Q 0 h))))) : AW w mX6_smallAt 0 0 (rI Q) 0 0 0 [some (.ref a0), some (.int x1), none] [] h := by
  refine aw_iload_n 1 dX6_smallAt_0 rfl rfl ?_
  refine aw_if_lt 12 4 dX6_smallAt_1 rfl (by decide) (fun c1 => ?_) (fun c1 => ?_)
  · replace H := H.1 c1
    refine aw_iconst (v := 0) 13 dX6_smallAt_12 rfl (by decide) ?_
    exact aw_ireturn dX6_smallAt_13 rfl (by decide) (by decide) ⟨_, rfl, H⟩
  · replace H := H.2 c1
    refine aw_iload_n 5 dX6_smallAt_4 rfl rfl ?_
    refine aw_aload_n 6 dX6_smallAt_5 rfl rfl ?_
    obtain ⟨g2, H⟩ := H
    refine aw_getI 9 dX6_smallAt_6 rfl fl_X6_15 (by decide) g2 ?_
    refine aw_icmp_lt 14 12 dX6_smallAt_9 rfl (by decide) (fun c3 => ?_) (fun c3 => ?_)
    · replace H := H.1 c3
      refine aw_aload_n 15 dX6_smallAt_14 rfl rfl ?_
      obtain ⟨g4, H⟩ := H
      refine aw_getR 18 dX6_smallAt_15 rfl fl_X6_9 ir_6_0 g2 rfl g4 ?_
      refine aw_iload_n 19 dX6_smallAt_18 rfl rfl ?_
      obtain ⟨g5, H⟩ := H
      obtain ⟨g6, H⟩ := H
      refine aw_bald 20 dX6_smallAt_19 rfl (Or.inl (shp g5)) g6 ?_
      refine aw_istore_n (loc' := [some (.ref a0), some (.int x1), some (.int (hI h (hR h a0 0) x1.toNatClampNeg))]) 21 dX6_smallAt_20 rfl (by decide) rfl ?_
      refine aw_iload_n 22 dX6_smallAt_21 rfl rfl ?_
      refine aw_bipush (v := 65) 24 dX6_smallAt_22 rfl (by decide) ?_
      refine aw_icmp_lt 43 27 dX6_smallAt_24 rfl (by decide) (fun c7 => ?_) (fun c7 => ?_)
      · replace H := H.1 c7
        refine aw_iload_n 44 dX6_smallAt_43 rfl rfl ?_
        exact aw_ireturn dX6_smallAt_44 rfl (by decide) (by decide) ⟨_, rfl, H⟩
      · replace H := H.2 c7
        refine aw_iload_n 28 dX6_smallAt_27 rfl rfl ?_
        refine aw_bipush (v := 90) 30 dX6_smallAt_28 rfl (by decide) ?_
        refine aw_icmp_gt 43 33 dX6_smallAt_30 rfl (by decide) (fun c8 => ?_) (fun c8 => ?_)
        · replace H := H.1 c8
          refine aw_iload_n 44 dX6_smallAt_43 rfl rfl ?_
          exact aw_ireturn dX6_smallAt_44 rfl (by decide) (by decide) ⟨_, rfl, H⟩
        · replace H := H.2 c8
          refine aw_iload_n 34 dX6_smallAt_33 rfl rfl ?_
          refine aw_bipush (v := 65) 36 dX6_smallAt_34 rfl (by decide) ?_
          refine aw_isub 37 dX6_smallAt_36 rfl ?_
          refine aw_bipush (v := 97) 39 dX6_smallAt_37 rfl (by decide) ?_
          refine aw_iadd 40 dX6_smallAt_39 rfl ?_
          refine aw_goto 44 dX6_smallAt_40 (by decide) ?_
          exact aw_ireturn dX6_smallAt_44 rfl (by decide) (by decide) ⟨_, rfl, H⟩
    · replace H := H.2 c3
      refine aw_iconst (v := 0) 13 dX6_smallAt_12 rfl (by decide) ?_
      exact aw_ireturn dX6_smallAt_13 rfl (by decide) (by decide) ⟨_, rfl, H⟩
theorem eX6_smallAt {w : Wd} {Q : Int32 → Hp → Prop} {h : Hp} {a0 : Nat} {x1 : Int32} (H : AW w mX6_smallAt 0 0 (rI Q) 0 0 0 [some (.ref a0), some (.int x1), none] [] h) : AC w mX6_smallAt 0 0 (rI Q) [.ref a0, .int x1] h := AC.ofL (by decide) (by simp [enl, Value.category]) (by simp [leL, enl, Value.category]) H
set_option maxHeartbeats 4000000 in
set_option maxRecDepth 100000 in
theorem sX8_indexOf_0 {w : Wd} {Q : Int32 → Hp → Prop} {h : Hp} {a0 : Nat} {a1 : Nat} {x2 : Int32} (H : AW w mX8_indexOf 0 0 (rI Q) 0 0 2 [some (.ref a0), some (.ref a1), some (.int x2), some (.int 0)] [] h) : AW w mX8_indexOf 0 0 (rI Q) 0 0 0 [some (.ref a0), some (.ref a1), some (.int x2), none] [] h := by
  refine aw_iconst (v := 0) 1 dX8_indexOf_0 rfl (by decide) ?_
  refine aw_istore_n (loc' := [some (.ref a0), some (.ref a1), some (.int x2), some (.int 0)]) 2 dX8_indexOf_1 rfl (by decide) rfl ?_
  exact H
theorem eX8_indexOf {w : Wd} {Q : Int32 → Hp → Prop} {h : Hp} {a0 : Nat} {a1 : Nat} {x2 : Int32} (H : AW w mX8_indexOf 0 0 (rI Q) 0 0 0 [some (.ref a0), some (.ref a1), some (.int x2), none] [] h) : AC w mX8_indexOf 0 0 (rI Q) [.ref a0, .ref a1, .int x2] h := AC.ofL (by decide) (by simp [enl, Value.category]) (by simp [leL, enl, Value.category]) H
set_option maxHeartbeats 4000000 in
set_option maxRecDepth 100000 in
theorem sX8_indexOf_2 {w : Wd} {Q : Int32 → Hp → Prop} {h : Hp} {a0 : Nat} {a1 : Nat} {x2 : Int32} {x3 : Int32} (H : (hs h a0).1 = 28 ∧ (((hI h a0 3) ≤ x3 → Q (-1) h) ∧ (¬ (hI h a0 3) ≤ x3 → AC w mX8_isAt 0 0 (rI fun r1 h1 => ((r1 = 0 → AW w mX8_indexOf 0 0 (rI Q) 0 0 2 [some (.ref a0), some (.ref a1), some (.int x2), some (.int (x3 + 1))] [] h1) ∧ (¬ r1 = 0 → Q x3 h1))) [.ref a0, .int x3, .ref a1, .int x2] h))) : AW w mX8_indexOf 0 0 (rI Q) 0 0 2 [some (.ref a0), some (.ref a1), some (.int x2), some (.int x3)] [] h := by
  refine aw_iload_n 3 dX8_indexOf_2 rfl rfl ?_
  refine aw_aload_n 4 dX8_indexOf_3 rfl rfl ?_
  obtain ⟨g1, H⟩ := H
  refine aw_getI 7 dX8_indexOf_4 rfl fl_X8_24 (by decide) g1 ?_
  refine aw_icmp_ge 28 10 dX8_indexOf_7 rfl (by decide) (fun c2 => ?_) (fun c2 => ?_)
  · replace H := H.1 c2
    refine aw_iconst (v := (-1)) 29 dX8_indexOf_28 rfl (by decide) ?_
    exact aw_ireturn dX8_indexOf_29 rfl (by decide) (by decide) ⟨_, rfl, H⟩
  · replace H := H.2 c2
    refine aw_aload_n 11 dX8_indexOf_10 rfl rfl ?_
    refine aw_iload_n 12 dX8_indexOf_11 rfl rfl ?_
    refine aw_aload_n 13 dX8_indexOf_12 rfl rfl ?_
    refine aw_iload_n 14 dX8_indexOf_13 rfl rfl ?_
    refine aw_callV (stk := []) (ci := 8) [.int x3, .ref a1, .int x2] 17 dX8_indexOf_14 rfl mv_X8_27 ⟨by decide, by decide⟩ g1 (by intro r hr; cases hr; rfl) rfl rfl (by simp [Value.category]) (by decide) H ?_
    rintro _ h1 ⟨r1, rfl, H⟩
    refine aw_if_eq 22 20 dX8_indexOf_17 rfl (by decide) (fun c3 => ?_) (fun c3 => ?_)
    · replace H := H.1 c3
      refine aw_iinc (y := 1) (loc' := [some (.ref a0), some (.ref a1), some (.int x2), some (.int (x3 + 1))]) 25 dX8_indexOf_22 rfl (by decide) rfl (by decide) rfl ?_
      refine aw_goto 2 dX8_indexOf_25 (by decide) ?_
      exact H
    · replace H := H.2 c3
      refine aw_iload_n 21 dX8_indexOf_20 rfl rfl ?_
      exact aw_ireturn dX8_indexOf_21 rfl (by decide) (by decide) ⟨_, rfl, H⟩
set_option maxHeartbeats 4000000 in
set_option maxRecDepth 100000 in
theorem sX8_isAt_0 {w : Wd} {Q : Int32 → Hp → Prop} {h : Hp} {a0 : Nat} {x1 : Int32} {a2 : Nat} {x3 : Int32} (H : (hs h a0).1 = 28 ∧ hR h a0 2 ≠ 0 ∧ (hs h (hR h a0 2)).1 = 1 ∧ vp_in x1 (hs h (hR h a0 2)).2 ∧ (((hI h (hR h a0 2) x1.toNatClampNeg) = x3 → AW w mX8_isAt 0 0 (rI Q) 0 0 15 [some (.ref a0), some (.int x1), some (.ref a2), some (.int x3), some (.int 0)] [] h) ∧ (¬ (hI h (hR h a0 2) x1.toNatClampNeg) = x3 → Q 0 h))) : AW w mX8_isAt 0 0 (rI Q) 0 0 0 [some (.ref a0), some (.int x1), some (.ref a2), some (.int x3), none] [] h := by
  refine aw_aload_n 1 dX8_isAt_0 rfl rfl ?_
  obtain ⟨g1, H⟩ := H
  obtain ⟨g2, H⟩ := H
  refine aw_getR 4 dX8_isAt_1 rfl fl_X8_20 ir_8_2 g1 rfl g2 ?_
  refine aw_iload_n 5 dX8_isAt_4 rfl rfl ?_
  obtain ⟨g3, H⟩ := H
  obtain ⟨g4, H⟩ := H
  refine aw_iald 6 dX8_isAt_5 rfl (Or.inl (shp g3)) g4 ?_
  refine aw_iload_n 7 dX8_isAt_6 rfl rfl ?_
  refine aw_icmp_eq 12 10 dX8_isAt_7 rfl (by decide) (fun c5 => ?_) (fun c5 => ?_)
  · replace H := H.1 c5
    refine aw_iconst (v := 0) 13 dX8_isAt_12 rfl (by decide) ?_
    refine aw_istore (loc' := [some (.ref a0), some (.int x1), some (.ref a2), some (.int x3), some (.int 0)]) 15 dX8_isAt_13 rfl (by decide) rfl ?_
    exact H
  · replace H := H.2 c5
    refine aw_iconst (v := 0) 11 dX8_isAt_10 rfl (by decide) ?_
    exact aw_zreturn dX8_isAt_11 rfl (by decide) (by decide) (by decide) ⟨_, rfl, H⟩
theorem eX8_isAt {w : Wd} {Q : Int32 → Hp → Prop} {h : Hp} {a0 : Nat} {x1 : Int32} {a2 : Nat} {x3 : Int32} (H : AW w mX8_isAt 0 0 (rI Q) 0 0 0 [some (.ref a0), some (.int x1), some (.ref a2), some (.int x3), none] [] h) : AC w mX8_isAt 0 0 (rI Q) [.ref a0, .int x1, .ref a2, .int x3] h := AC.ofL (by decide) (by simp [enl, Value.category]) (by simp [leL, enl, Value.category]) H
set_option maxHeartbeats 4000000 in
set_option maxRecDepth 100000 in
theorem sX8_isAt_15 {w : Wd} {Q : Int32 → Hp → Prop} {h : Hp} {a0 : Nat} {x1 : Int32} {a2 : Nat} {x3 : Int32} {x4 : Int32} (H : ((x3 ≤ x4 → Q 1 h) ∧ (¬ x3 ≤ x4 → (hs h a0).1 = 28 ∧ hR h a0 1 ≠ 0 ∧ (hs h (hR h a0 1)).1 = 7 ∧ vp_in x1 (hs h (hR h a0 1)).2 ∧ hR h (hR h a0 1) x1.toNatClampNeg ≠ 0 ∧ (hs h (hR h (hR h a0 1) x1.toNatClampNeg)).1 = 2 ∧ vp_in x4 (hs h (hR h (hR h a0 1) x1.toNatClampNeg)).2 ∧ (hs h a2).1 = 2 ∧ vp_in x4 (hs h a2).2 ∧ (((hI h (hR h (hR h a0 1) x1.toNatClampNeg) x4.toNatClampNeg) = (hI h a2 x4.toNatClampNeg) → AW w mX8_isAt 0 0 (rI Q) 0 0 15 [some (.ref a0), some (.int x1), some (.ref a2), some (.int x3), some (.int (x4 + 1))] [] h) ∧ (¬ (hI h (hR h (hR h a0 1) x1.toNatClampNeg) x4.toNatClampNeg) = (hI h a2 x4.toNatClampNeg) → Q 0 h))))) : AW w mX8_isAt 0 0 (rI Q) 0 0 15 [some (.ref a0), some (.int x1), some (.ref a2), some (.int x3), some (.int x4)] [] h := by
  refine aw_iload 17 dX8_isAt_15 rfl rfl ?_
  refine aw_iload_n 18 dX8_isAt_17 rfl rfl ?_
  refine aw_icmp_ge 45 21 dX8_isAt_18 rfl (by decide) (fun c1 => ?_) (fun c1 => ?_)
  · replace H := H.1 c1
    refine aw_iconst (v := 1) 46 dX8_isAt_45 rfl (by decide) ?_
    exact aw_zreturn dX8_isAt_46 rfl (by decide) (by decide) (by decide) ⟨_, rfl, H⟩
  · replace H := H.2 c1
    refine aw_aload_n 22 dX8_isAt_21 rfl rfl ?_
    obtain ⟨g2, H⟩ := H
    obtain ⟨g3, H⟩ := H
    refine aw_getR 25 dX8_isAt_22 rfl fl_X8_17 ir_8_1 g2 rfl g3 ?_
    refine aw_iload_n 26 dX8_isAt_25 rfl rfl ?_
    obtain ⟨g4, H⟩ := H
    obtain ⟨g5, H⟩ := H
    obtain ⟨g6, H⟩ := H
    refine aw_aald 27 dX8_isAt_26 rfl (shp g4) (by decide) g5 rfl g6 ?_
    refine aw_iload 29 dX8_isAt_27 rfl rfl ?_
    obtain ⟨g7, H⟩ := H
    obtain ⟨g8, H⟩ := H
    refine aw_bald 30 dX8_isAt_29 rfl (Or.inl (shp g7)) g8 ?_
    refine aw_aload_n 31 dX8_isAt_30 rfl rfl ?_
    refine aw_iload 33 dX8_isAt_31 rfl rfl ?_
    obtain ⟨g9, H⟩ := H
    obtain ⟨g10, H⟩ := H
    refine aw_bald 34 dX8_isAt_33 rfl (Or.inl (shp g9)) g10 ?_
    refine aw_icmp_eq 39 37 dX8_isAt_34 rfl (by decide) (fun c11 => ?_) (fun c11 => ?_)
    · replace H := H.1 c11
      refine aw_iinc (y := 1) (loc' := [some (.ref a0), some (.int x1), some (.ref a2), some (.int x3), some (.int (x4 + 1))]) 42 dX8_isAt_39 rfl (by decide) rfl (by decide) rfl ?_
      refine aw_goto 15 dX8_isAt_42 (by decide) ?_
      exact H
    · replace H := H.2 c11
      refine aw_iconst (v := 0) 38 dX8_isAt_37 rfl (by decide) ?_
      exact aw_zreturn dX8_isAt_38 rfl (by decide) (by decide) (by decide) ⟨_, rfl, H⟩
set_option maxHeartbeats 4000000 in
set_option maxRecDepth 100000 in
theorem sX8_enter_0 {w : Wd} {Q : Int32 → Hp → Prop} {h : Hp} {a0 : Nat} {a1 : Nat} {x2 : Int32} (H : (hs h a0).1 = 28 ∧ AC w mX8_indexOf 0 0 (rI fun r1 h1 => ((r1 = (-1) → (hs h1 a0).1 = 28 ∧ (((hI h1 a0 3) < (hI h1 a0 0) → AW w mX8_enter 0 0 (rI Q) 0 0 30 [some (.ref a0), some (.ref a1), some (.int x2), none, some (.int 0)] [] h1) ∧ (¬ (hI h1 a0 3) < (hI h1 a0 0) → Q (-1) h1))) ∧ (¬ r1 = (-1) → Q r1 h1))) [.ref a0, .ref a1, .int x2] h) : AW w mX8_enter 0 0 (rI Q) 0 0 0 [some (.ref a0), some (.ref a1), some (.int x2), none, none] [] h := by
  refine aw_aload_n 1 dX8_enter_0 rfl rfl ?_
  refine aw_aload_n 2 dX8_enter_1 rfl rfl ?_
  refine aw_iload_n 3 dX8_enter_2 rfl rfl ?_
  obtain ⟨g1, H⟩ := H
  refine aw_callV (stk := []) (ci := 8) [.ref a1, .int x2] 6 dX8_enter_3 rfl mv_X8_31 ⟨by decide, by decide⟩ g1 (by intro r hr; cases hr; rfl) rfl rfl (by simp [Value.category]) (by decide) H ?_
  rintro _ h1 ⟨r1, rfl, H⟩
  refine aw_istore_n (loc' := [some (.ref a0), some (.ref a1), some (.int x2), some (.int r1), none]) 7 dX8_enter_6 rfl (by decide) rfl ?_
  refine aw_iload_n 8 dX8_enter_7 rfl rfl ?_
  refine aw_iconst (v := (-1)) 9 dX8_enter_8 rfl (by decide) ?_
  refine aw_icmp_eq 14 12 dX8_enter_9 rfl (by decide) (fun c2 => ?_) (fun c2 => ?_)
  · replace H := H.1 c2
    refine aw_aload_n 15 dX8_enter_14 rfl rfl ?_
    obtain ⟨g3, H⟩ := H
    refine aw_getI 18 dX8_enter_15 rfl fl_X8_24 (by decide) g3 ?_
    refine aw_aload_n 19 dX8_enter_18 rfl rfl ?_
    refine aw_getI 22 dX8_enter_19 rfl fl_X8_9 (by decide) g3 ?_
    refine aw_icmp_lt 27 25 dX8_enter_22 rfl (by decide) (fun c4 => ?_) (fun c4 => ?_)
    · replace H := H.1 c4
      refine aw_iconst (v := 0) 28 dX8_enter_27 rfl (by decide) ?_
      refine aw_istore (loc' := [some (.ref a0), some (.ref a1), some (.int x2), some (.int r1), some (.int 0)]) 30 dX8_enter_28 rfl (by decide) rfl ?_
      exact aw_fgt (by simp [leL]) H
    · replace H := H.2 c4
      refine aw_iconst (v := (-1)) 26 dX8_enter_25 rfl (by decide) ?_
      exact aw_ireturn dX8_enter_26 rfl (by decide) (by decide) ⟨_, rfl, H⟩
  · replace H := H.2 c2
    refine aw_iload_n 13 dX8_enter_12 rfl rfl ?_
    exact aw_ireturn dX8_enter_13 rfl (by decide) (by decide) ⟨_, rfl, H⟩
theorem eX8_enter {w : Wd} {Q : Int32 → Hp → Prop} {h : Hp} {a0 : Nat} {a1 : Nat} {x2 : Int32} (H : AW w mX8_enter 0 0 (rI Q) 0 0 0 [some (.ref a0), some (.ref a1), some (.int x2), none, none] [] h) : AC w mX8_enter 0 0 (rI Q) [.ref a0, .ref a1, .int x2] h := AC.ofL (by decide) (by simp [enl, Value.category]) (by simp [leL, enl, Value.category]) H
set_option maxHeartbeats 4000000 in
set_option maxRecDepth 100000 in
theorem sX8_enter_30 {w : Wd} {Q : Int32 → Hp → Prop} {h : Hp} {a0 : Nat} {a1 : Nat} {x2 : Int32} {x4 : Int32} (H : ((x2 ≤ x4 → (hs h a0).1 = 28 ∧ hR h a0 2 ≠ 0 ∧ (hs h (hR h a0 2)).1 = 1 ∧ vp_in (hI h a0 3) (hs h (hR h a0 2)).2 ∧ ∀ h1, h1 = sI h (hR h a0 2) (hI h a0 3).toNatClampNeg x2 → ∀ h2, h2 = sI h1 a0 3 ((hI h1 a0 3) + 1) → Q ((hI h2 a0 3) - 1) h2) ∧ (¬ x2 ≤ x4 → (hs h a0).1 = 28 ∧ hR h a0 1 ≠ 0 ∧ (hs h (hR h a0 1)).1 = 7 ∧ vp_in (hI h a0 3) (hs h (hR h a0 1)).2 ∧ hR h (hR h a0 1) (hI h a0 3).toNatClampNeg ≠ 0 ∧ (hs h a1).1 = 2 ∧ vp_in x4 (hs h a1).2 ∧ (hs h (hR h (hR h a0 1) (hI h a0 3).toNatClampNeg)).1 = 2 ∧ vp_in x4 (hs h (hR h (hR h a0 1) (hI h a0 3).toNatClampNeg)).2 ∧ ∀ h3, h3 = sI h (hR h (hR h a0 1) (hI h a0 3).toNatClampNeg) x4.toNatClampNeg (vp_nar .byte (hI h a1 x4.toNatClampNeg)) → AW w mX8_enter 0 0 (rI Q) 0 0 30 [some (.ref a0), some (.ref a1), some (.int x2), none, some (.int (x4 + 1))] [] h3))) : AW w mX8_enter 0 0 (rI Q) 0 0 30 [some (.ref a0), some (.ref a1), some (.int x2), none, some (.int x4)] [] h := by
  refine aw_iload 32 dX8_enter_30 rfl rfl ?_
  refine aw_iload_n 33 dX8_enter_32 rfl rfl ?_
  refine aw_icmp_ge 58 36 dX8_enter_33 rfl (by decide) (fun c1 => ?_) (fun c1 => ?_)
  · replace H := H.1 c1
    refine aw_aload_n 59 dX8_enter_58 rfl rfl ?_
    obtain ⟨g2, H⟩ := H
    obtain ⟨g3, H⟩ := H
    refine aw_getR 62 dX8_enter_59 rfl fl_X8_20 ir_8_2 g2 rfl g3 ?_
    refine aw_aload_n 63 dX8_enter_62 rfl rfl ?_
    refine aw_getI 66 dX8_enter_63 rfl fl_X8_24 (by decide) g2 ?_
    refine aw_iload_n 67 dX8_enter_66 rfl rfl ?_
    obtain ⟨g4, H⟩ := H
    obtain ⟨g5, H⟩ := H
    refine aw_iast 68 dX8_enter_67 rfl (shp g4) g5 ?_
    replace H := H _ rfl
    refine aw_aload_n 69 dX8_enter_68 rfl rfl ?_
    refine aw_dup 70 dX8_enter_69 rfl rfl ?_
    refine aw_getI 73 dX8_enter_70 rfl fl_X8_24 (by decide) g2 ?_
    refine aw_iconst (v := 1) 74 dX8_enter_73 rfl (by decide) ?_
    refine aw_iadd 75 dX8_enter_74 rfl ?_
    refine aw_putI 78 dX8_enter_75 rfl fl_X8_24 (by decide) g2 nf_8_3 ?_
    replace H := H _ rfl
    refine aw_aload_n 79 dX8_enter_78 rfl rfl ?_
    refine aw_getI 82 dX8_enter_79 rfl fl_X8_24 (by decide) g2 ?_
    refine aw_iconst (v := 1) 83 dX8_enter_82 rfl (by decide) ?_
    refine aw_isub 84 dX8_enter_83 rfl ?_
    exact aw_ireturn dX8_enter_84 rfl (by decide) (by decide) ⟨_, rfl, H⟩
  · replace H := H.2 c1
    refine aw_aload_n 37 dX8_enter_36 rfl rfl ?_
    obtain ⟨g6, H⟩ := H
    obtain ⟨g7, H⟩ := H
    refine aw_getR 40 dX8_enter_37 rfl fl_X8_17 ir_8_1 g6 rfl g7 ?_
    refine aw_aload_n 41 dX8_enter_40 rfl rfl ?_
    refine aw_getI 44 dX8_enter_41 rfl fl_X8_24 (by decide) g6 ?_
    obtain ⟨g8, H⟩ := H
    obtain ⟨g9, H⟩ := H
    obtain ⟨g10, H⟩ := H
    refine aw_aald 45 dX8_enter_44 rfl (shp g8) (by decide) g9 rfl g10 ?_
    refine aw_iload 47 dX8_enter_45 rfl rfl ?_
    refine aw_aload_n 48 dX8_enter_47 rfl rfl ?_
    refine aw_iload 50 dX8_enter_48 rfl rfl ?_
    obtain ⟨g11, H⟩ := H
    obtain ⟨g12, H⟩ := H
    refine aw_bald 51 dX8_enter_50 rfl (Or.inl (shp g11)) g12 ?_
    obtain ⟨g13, H⟩ := H
    obtain ⟨g14, H⟩ := H
    refine aw_bast 52 dX8_enter_51 rfl (shp g13) g14 ?_
    replace H := H _ rfl
    refine aw_iinc (y := 1) (loc' := [some (.ref a0), some (.ref a1), some (.int x2), none, some (.int (x4 + 1))]) 55 dX8_enter_52 rfl (by decide) rfl (by decide) rfl ?_
    refine aw_goto 30 dX8_enter_55 (by decide) ?_
    exact H
set_option maxHeartbeats 4000000 in
set_option maxRecDepth 100000 in
theorem sX8_letterAt_0 {w : Wd} {Q : Int32 → Hp → Prop} {h : Hp} {a0 : Nat} {x1 : Int32} {x2 : Int32} (H : ((x2 < 0 → Q (-1) h) ∧ (¬ x2 < 0 → (hs h a0).1 = 28 ∧ hR h a0 2 ≠ 0 ∧ (hs h (hR h a0 2)).1 = 1 ∧ vp_in x1 (hs h (hR h a0 2)).2 ∧ (((hI h (hR h a0 2) x1.toNatClampNeg) ≤ x2 → Q (-1) h) ∧ (¬ (hI h (hR h a0 2) x1.toNatClampNeg) ≤ x2 → hR h a0 1 ≠ 0 ∧ (hs h (hR h a0 1)).1 = 7 ∧ vp_in x1 (hs h (hR h a0 1)).2 ∧ hR h (hR h a0 1) x1.toNatClampNeg ≠ 0 ∧ (hs h (hR h (hR h a0 1) x1.toNatClampNeg)).1 = 2 ∧ vp_in x2 (hs h (hR h (hR h a0 1) x1.toNatClampNeg)).2 ∧ Q (hI h (hR h (hR h a0 1) x1.toNatClampNeg) x2.toNatClampNeg) h))))) : AW w mX8_letterAt 0 0 (rI Q) 0 0 0 [some (.ref a0), some (.int x1), some (.int x2)] [] h := by
  refine aw_iload_n 1 dX8_letterAt_0 rfl rfl ?_
  refine aw_if_lt 25 4 dX8_letterAt_1 rfl (by decide) (fun c1 => ?_) (fun c1 => ?_)
  · replace H := H.1 c1
    refine aw_iconst (v := (-1)) 26 dX8_letterAt_25 rfl (by decide) ?_
    exact aw_ireturn dX8_letterAt_26 rfl (by decide) (by decide) ⟨_, rfl, H⟩
  · replace H := H.2 c1
    refine aw_iload_n 5 dX8_letterAt_4 rfl rfl ?_
    refine aw_aload_n 6 dX8_letterAt_5 rfl rfl ?_
    obtain ⟨g2, H⟩ := H
    obtain ⟨g3, H⟩ := H
    refine aw_getR 9 dX8_letterAt_6 rfl fl_X8_20 ir_8_2 g2 rfl g3 ?_
    refine aw_iload_n 10 dX8_letterAt_9 rfl rfl ?_
    obtain ⟨g4, H⟩ := H
    obtain ⟨g5, H⟩ := H
    refine aw_iald 11 dX8_letterAt_10 rfl (Or.inl (shp g4)) g5 ?_
    refine aw_icmp_ge 25 14 dX8_letterAt_11 rfl (by decide) (fun c6 => ?_) (fun c6 => ?_)
    · replace H := H.1 c6
      refine aw_iconst (v := (-1)) 26 dX8_letterAt_25 rfl (by decide) ?_
      exact aw_ireturn dX8_letterAt_26 rfl (by decide) (by decide) ⟨_, rfl, H⟩
    · replace H := H.2 c6
      refine aw_aload_n 15 dX8_letterAt_14 rfl rfl ?_
      obtain ⟨g7, H⟩ := H
      refine aw_getR 18 dX8_letterAt_15 rfl fl_X8_17 ir_8_1 g2 rfl g7 ?_
      refine aw_iload_n 19 dX8_letterAt_18 rfl rfl ?_
      obtain ⟨g8, H⟩ := H
      obtain ⟨g9, H⟩ := H
      obtain ⟨g10, H⟩ := H
      refine aw_aald 20 dX8_letterAt_19 rfl (shp g8) (by decide) g9 rfl g10 ?_
      refine aw_iload_n 21 dX8_letterAt_20 rfl rfl ?_
      obtain ⟨g11, H⟩ := H
      obtain ⟨g12, H⟩ := H
      refine aw_bald 22 dX8_letterAt_21 rfl (Or.inl (shp g11)) g12 ?_
      refine aw_goto 26 dX8_letterAt_22 (by decide) ?_
      exact aw_ireturn dX8_letterAt_26 rfl (by decide) (by decide) ⟨_, rfl, H⟩
theorem eX8_letterAt {w : Wd} {Q : Int32 → Hp → Prop} {h : Hp} {a0 : Nat} {x1 : Int32} {x2 : Int32} (H : AW w mX8_letterAt 0 0 (rI Q) 0 0 0 [some (.ref a0), some (.int x1), some (.int x2)] [] h) : AC w mX8_letterAt 0 0 (rI Q) [.ref a0, .int x1, .int x2] h := AC.ofL (by decide) (by simp [enl, Value.category]) (by simp [leL, enl, Value.category]) H
set_option maxHeartbeats 4000000 in
set_option maxRecDepth 100000 in
theorem sX8_lengthAt_0 {w : Wd} {Q : Int32 → Hp → Prop} {h : Hp} {a0 : Nat} {x1 : Int32} (H : (hs h a0).1 = 28 ∧ hR h a0 2 ≠ 0 ∧ (hs h (hR h a0 2)).1 = 1 ∧ vp_in x1 (hs h (hR h a0 2)).2 ∧ Q (hI h (hR h a0 2) x1.toNatClampNeg) h) : AW w mX8_lengthAt 0 0 (rI Q) 0 0 0 [some (.ref a0), some (.int x1)] [] h := by
  refine aw_aload_n 1 dX8_lengthAt_0 rfl rfl ?_
  obtain ⟨g1, H⟩ := H
  obtain ⟨g2, H⟩ := H
  refine aw_getR 4 dX8_lengthAt_1 rfl fl_X8_20 ir_8_2 g1 rfl g2 ?_
  refine aw_iload_n 5 dX8_lengthAt_4 rfl rfl ?_
  obtain ⟨g3, H⟩ := H
  obtain ⟨g4, H⟩ := H
  refine aw_iald 6 dX8_lengthAt_5 rfl (Or.inl (shp g3)) g4 ?_
  exact aw_ireturn dX8_lengthAt_6 rfl (by decide) (by decide) ⟨_, rfl, H⟩
theorem eX8_lengthAt {w : Wd} {Q : Int32 → Hp → Prop} {h : Hp} {a0 : Nat} {x1 : Int32} (H : AW w mX8_lengthAt 0 0 (rI Q) 0 0 0 [some (.ref a0), some (.int x1)] [] h) : AC w mX8_lengthAt 0 0 (rI Q) [.ref a0, .int x1] h := AC.ofL (by decide) (by simp [enl, Value.category]) (by simp [leL, enl, Value.category]) H
set_option maxHeartbeats 4000000 in
set_option maxRecDepth 100000 in
theorem sX0_makeEmpty_0 {w : Wd} {Q : Hp → Prop} {h : Hp} {a0 : Nat} (H : (hs h a0).1 = 20 ∧ hR h a0 0 ≠ 0 ∧ (hs h (hR h a0 0)).1 = 28 ∧ ∀ h1, h1 = sI h (hR h a0 0) 3 0 → ∀ h2, h2 = sI h1 a0 5 0 → ∀ h3, h3 = sI h2 a0 6 0 → ∀ h4, h4 = sI h3 a0 7 0 → Q h4) : AW w mX0_makeEmpty 0 0 (rV Q) 0 0 0 [some (.ref a0)] [] h := by
  refine aw_aload_n 1 dX0_makeEmpty_0 rfl rfl ?_
  obtain ⟨g1, H⟩ := H
  obtain ⟨g2, H⟩ := H
  refine aw_getR 4 dX0_makeEmpty_1 rfl fl_X0_14 ir_0_0 g1 rfl g2 ?_
  refine aw_iconst (v := 0) 5 dX0_makeEmpty_4 rfl (by decide) ?_
  obtain ⟨g3, H⟩ := H
  refine aw_putI 8 dX0_makeEmpty_5 rfl fl_X0_35 (by decide) g3 nf_8_3 ?_
  replace H := H _ rfl
  refine aw_aload_n 9 dX0_makeEmpty_8 rfl rfl ?_
  refine aw_iconst (v := 0) 10 dX0_makeEmpty_9 rfl (by decide) ?_
  refine aw_putI 13 dX0_makeEmpty_10 rfl fl_X0_39 (by decide) g1 nf_0_5 ?_
  replace H := H _ rfl
  refine aw_aload_n 14 dX0_makeEmpty_13 rfl rfl ?_
  refine aw_iconst (v := 0) 15 dX0_makeEmpty_14 rfl (by decide) ?_
  refine aw_putI 18 dX0_makeEmpty_15 rfl fl_X0_42 (by decide) g1 nf_0_6 ?_
  replace H := H _ rfl
  refine aw_aload_n 19 dX0_makeEmpty_18 rfl rfl ?_
  refine aw_iconst (v := 0) 20 dX0_makeEmpty_19 rfl (by decide) ?_
  refine aw_putI 23 dX0_makeEmpty_20 rfl fl_X0_45 (by decide) g1 nf_0_7 ?_
  replace H := H _ rfl
  exact aw_return dX0_makeEmpty_23 rfl (by decide) (by decide) ⟨rfl, H⟩
theorem eX0_makeEmpty {w : Wd} {Q : Hp → Prop} {h : Hp} {a0 : Nat} (H : AW w mX0_makeEmpty 0 0 (rV Q) 0 0 0 [some (.ref a0)] [] h) : AC w mX0_makeEmpty 0 0 (rV Q) [.ref a0] h := AC.ofL (by decide) (by simp [enl, Value.category]) (by simp [leL, enl, Value.category]) H
set_option maxHeartbeats 4000000 in
set_option maxRecDepth 100000 in
theorem sX0_addWord_0 {w : Wd} {Q : Int32 → Hp → Prop} {h : Hp} {a0 : Nat} {a1 : Nat} {x2 : Int32} (H : (hs h a0).1 = 20 ∧ ((20 ≤ (hI h a0 5) → Q 0 h) ∧ (¬ 20 ≤ (hI h a0 5) → (((hI h a0 7) < 10 → hR h a0 0 ≠ 0 ∧ (hs h (hR h a0 0)).1 = 28 ∧ AC w mX8_enter 0 0 (rI fun r1 h1 => ((¬ r1 = (-1) → (hs h1 a0).1 = 20 ∧ hR h1 a0 1 ≠ 0 ∧ (hs h1 (hR h1 a0 1)).1 = 6 ∧ vp_in (hI h1 a0 5) (hs h1 (hR h1 a0 1)).2 ∧ hR h1 (hR h1 a0 1) (hI h1 a0 5).toNatClampNeg ≠ 0 ∧ (hs h1 (hR h1 (hR h1 a0 1) (hI h1 a0 5).toNatClampNeg)).1 = 1 ∧ vp_in (hI h1 a0 7) (hs h1 (hR h1 (hR h1 a0 1) (hI h1 a0 5).toNatClampNeg)).2 ∧ ∀ h2, h2 = sI h1 (hR h1 (hR h1 a0 1) (hI h1 a0 5).toNatClampNeg) (hI h1 a0 7).toNatClampNeg r1 → ∀ h3, h3 = sI h2 a0 7 ((hI h2 a0 7) + 1) → Q 1 h3) ∧ (r1 = (-1) → Q 0 h1))) [.ref (hR h a0 0), .ref a1, .int x2] h) ∧ (¬ (hI h a0 7) < 10 → Q 0 h))))) : AW w mX0_addWord 0 0 (rI Q) 0 0 0 [some (.ref a0), some (.ref a1), some (.int x2), none] [] h := by
  refine aw_aload_n 1 dX0_addWord_0 rfl rfl ?_
  obtain ⟨g1, H⟩ := H
  refine aw_getI 4 dX0_addWord_1 rfl fl_X0_39 (by decide) g1 ?_
  refine aw_bipush (v := 20) 6 dX0_addWord_4 rfl (by decide) ?_
  refine aw_icmp_ge 18 9 dX0_addWord_6 rfl (by decide) (fun c2 => ?_) (fun c2 => ?_)
  · replace H := H.1 c2
    refine aw_iconst (v := 0) 19 dX0_addWord_18 rfl (by decide) ?_
    exact aw_zreturn dX0_addWord_19 rfl (by decide) (by decide) (by decide) ⟨_, rfl, H⟩
  · replace H := H.2 c2
    refine aw_aload_n 10 dX0_addWord_9 rfl rfl ?_
    refine aw_getI 13 dX0_addWord_10 rfl fl_X0_45 (by decide) g1 ?_
    refine aw_bipush (v := 10) 15 dX0_addWord_13 rfl (by decide) ?_
    refine aw_icmp_lt 20 18 dX0_addWord_15 rfl (by decide) (fun c3 => ?_) (fun c3 => ?_)
    · replace H := H.1 c3
      refine aw_aload_n 21 dX0_addWord_20 rfl rfl ?_
      obtain ⟨g4, H⟩ := H
      refine aw_getR 24 dX0_addWord_21 rfl fl_X0_14 ir_0_0 g1 rfl g4 ?_
      refine aw_aload_n 25 dX0_addWord_24 rfl rfl ?_
      refine aw_iload_n 26 dX0_addWord_25 rfl rfl ?_
      obtain ⟨g5, H⟩ := H
      refine aw_callV (stk := []) (ci := 8) [.ref a1, .int x2] 29 dX0_addWord_26 rfl mv_X0_48 ⟨by decide, by decide⟩ g5 (by intro r hr; cases hr; rfl) rfl rfl (by simp [Value.category]) (by decide) H ?_
      rintro _ h1 ⟨r1, rfl, H⟩
      refine aw_istore_n (loc' := [some (.ref a0), some (.ref a1), some (.int x2), some (.int r1)]) 30 dX0_addWord_29 rfl (by decide) rfl ?_
      refine aw_iload_n 31 dX0_addWord_30 rfl rfl ?_
      refine aw_iconst (v := (-1)) 32 dX0_addWord_31 rfl (by decide) ?_
      refine aw_icmp_ne 37 35 dX0_addWord_32 rfl (by decide) (fun c6 => ?_) (fun c6 => ?_)
      · replace H := H.1 c6
        refine aw_aload_n 38 dX0_addWord_37 rfl rfl ?_
        obtain ⟨g7, H⟩ := H
        obtain ⟨g8, H⟩ := H
        refine aw_getR 41 dX0_addWord_38 rfl fl_X0_22 ir_0_1 g7 rfl g8 ?_
        refine aw_aload_n 42 dX0_addWord_41 rfl rfl ?_
        refine aw_getI 45 dX0_addWord_42 rfl fl_X0_39 (by decide) g7 ?_
        obtain ⟨g9, H⟩ := H
        obtain ⟨g10, H⟩ := H
        obtain ⟨g11, H⟩ := H
        refine aw_aald 46 dX0_addWord_45 rfl (shp g9) (by decide) g10 rfl g11 ?_
        refine aw_aload_n 47 dX0_addWord_46 rfl rfl ?_
        refine aw_getI 50 dX0_addWord_47 rfl fl_X0_45 (by decide) g7 ?_
        refine aw_iload_n 51 dX0_addWord_50 rfl rfl ?_
        obtain ⟨g12, H⟩ := H
        obtain ⟨g13, H⟩ := H
        refine aw_iast 52 dX0_addWord_51 rfl (shp g12) g13 ?_
        replace H := H _ rfl
        refine aw_aload_n 53 dX0_addWord_52 rfl rfl ?_
        refine aw_dup 54 dX0_addWord_53 rfl rfl ?_
        refine aw_getI 57 dX0_addWord_54 rfl fl_X0_45 (by decide) g7 ?_
        refine aw_iconst (v := 1) 58 dX0_addWord_57 rfl (by decide) ?_
        refine aw_iadd 59 dX0_addWord_58 rfl ?_
        refine aw_putI 62 dX0_addWord_59 rfl fl_X0_45 (by decide) g7 nf_0_7 ?_
        replace H := H _ rfl
        refine aw_iconst (v := 1) 63 dX0_addWord_62 rfl (by decide) ?_
        exact aw_zreturn dX0_addWord_63 rfl (by decide) (by decide) (by decide) ⟨_, rfl, H⟩
      · replace H := H.2 c6
        refine aw_iconst (v := 0) 36 dX0_addWord_35 rfl (by decide) ?_
        exact aw_zreturn dX0_addWord_36 rfl (by decide) (by decide) (by decide) ⟨_, rfl, H⟩
    · replace H := H.2 c3
      refine aw_iconst (v := 0) 19 dX0_addWord_18 rfl (by decide) ?_
      exact aw_zreturn dX0_addWord_19 rfl (by decide) (by decide) (by decide) ⟨_, rfl, H⟩
theorem eX0_addWord {w : Wd} {Q : Int32 → Hp → Prop} {h : Hp} {a0 : Nat} {a1 : Nat} {x2 : Int32} (H : AW w mX0_addWord 0 0 (rI Q) 0 0 0 [some (.ref a0), some (.ref a1), some (.int x2), none] [] h) : AC w mX0_addWord 0 0 (rI Q) [.ref a0, .ref a1, .int x2] h := AC.ofL (by decide) (by simp [enl, Value.category]) (by simp [leL, enl, Value.category]) H
set_option maxHeartbeats 4000000 in
set_option maxRecDepth 100000 in
theorem sX0_endSentence_0 {w : Wd} {Q : Hp → Prop} {h : Hp} {a0 : Nat} (H : (hs h a0).1 = 20 ∧ (((hI h a0 7) ≤ 0 → Q h) ∧ (¬ (hI h a0 7) ≤ 0 → ((20 ≤ (hI h a0 5) → Q h) ∧ (¬ 20 ≤ (hI h a0 5) → hR h a0 2 ≠ 0 ∧ (hs h (hR h a0 2)).1 = 1 ∧ vp_in (hI h a0 5) (hs h (hR h a0 2)).2 ∧ ∀ h1, h1 = sI h (hR h a0 2) (hI h a0 5).toNatClampNeg (hI h a0 7) → hR h a0 3 ≠ 0 ∧ (hs h (hR h a0 3)).1 = 1 ∧ vp_in (hI h1 a0 5) (hs h (hR h a0 3)).2 ∧ ∀ h2, h2 = sI h1 (hR h a0 3) (hI h1 a0 5).toNatClampNeg (hI h1 a0 6) → ∀ h3, h3 = sI h2 a0 5 ((hI h2 a0 5) + 1) → ∀ h4, h4 = sI h3 a0 7 0 → Q h4))))) : AW w mX0_endSentence 0 0 (rV Q) 0 0 0 [some (.ref a0)] [] h := by
  refine aw_aload_n 1 dX0_endSentence_0 rfl rfl ?_
  obtain ⟨g1, H⟩ := H
  refine aw_getI 4 dX0_endSentence_1 rfl fl_X0_45 (by decide) g1 ?_
  refine aw_if_le 57 7 dX0_endSentence_4 rfl (by decide) (fun c2 => ?_) (fun c2 => ?_)
  · replace H := H.1 c2
    exact aw_return dX0_endSentence_57 rfl (by decide) (by decide) ⟨rfl, H⟩
  · replace H := H.2 c2
    refine aw_aload_n 8 dX0_endSentence_7 rfl rfl ?_
    refine aw_getI 11 dX0_endSentence_8 rfl fl_X0_39 (by decide) g1 ?_
    refine aw_bipush (v := 20) 13 dX0_endSentence_11 rfl (by decide) ?_
    refine aw_icmp_ge 57 16 dX0_endSentence_13 rfl (by decide) (fun c3 => ?_) (fun c3 => ?_)
    · replace H := H.1 c3
      exact aw_return dX0_endSentence_57 rfl (by decide) (by decide) ⟨rfl, H⟩
    · replace H := H.2 c3
      refine aw_aload_n 17 dX0_endSentence_16 rfl rfl ?_
      obtain ⟨g4, H⟩ := H
      refine aw_getR 20 dX0_endSentence_17 rfl fl_X0_25 ir_0_2 g1 rfl g4 ?_
      refine aw_aload_n 21 dX0_endSentence_20 rfl rfl ?_
      refine aw_getI 24 dX0_endSentence_21 rfl fl_X0_39 (by decide) g1 ?_
      refine aw_aload_n 25 dX0_endSentence_24 rfl rfl ?_
      refine aw_getI 28 dX0_endSentence_25 rfl fl_X0_45 (by decide) g1 ?_
      obtain ⟨g5, H⟩ := H
      obtain ⟨g6, H⟩ := H
      refine aw_iast 29 dX0_endSentence_28 rfl (shp g5) g6 ?_
      replace H := H _ rfl
      refine aw_aload_n 30 dX0_endSentence_29 rfl rfl ?_
      obtain ⟨g7, H⟩ := H
      refine aw_getR 33 dX0_endSentence_30 rfl fl_X0_29 ir_0_3 g1 rfl g7 ?_
      refine aw_aload_n 34 dX0_endSentence_33 rfl rfl ?_
      refine aw_getI 37 dX0_endSentence_34 rfl fl_X0_39 (by decide) g1 ?_
      refine aw_aload_n 38 dX0_endSentence_37 rfl rfl ?_
      refine aw_getI 41 dX0_endSentence_38 rfl fl_X0_42 (by decide) g1 ?_
      obtain ⟨g8, H⟩ := H
      obtain ⟨g9, H⟩ := H
      refine aw_iast 42 dX0_endSentence_41 rfl (shp g8) g9 ?_
      replace H := H _ rfl
      refine aw_aload_n 43 dX0_endSentence_42 rfl rfl ?_
      refine aw_dup 44 dX0_endSentence_43 rfl rfl ?_
      refine aw_getI 47 dX0_endSentence_44 rfl fl_X0_39 (by decide) g1 ?_
      refine aw_iconst (v := 1) 48 dX0_endSentence_47 rfl (by decide) ?_
      refine aw_iadd 49 dX0_endSentence_48 rfl ?_
      refine aw_putI 52 dX0_endSentence_49 rfl fl_X0_39 (by decide) g1 nf_0_5 ?_
      replace H := H _ rfl
      refine aw_aload_n 53 dX0_endSentence_52 rfl rfl ?_
      refine aw_iconst (v := 0) 54 dX0_endSentence_53 rfl (by decide) ?_
      refine aw_putI 57 dX0_endSentence_54 rfl fl_X0_45 (by decide) g1 nf_0_7 ?_
      replace H := H _ rfl
      exact aw_return dX0_endSentence_57 rfl (by decide) (by decide) ⟨rfl, H⟩
theorem eX0_endSentence {w : Wd} {Q : Hp → Prop} {h : Hp} {a0 : Nat} (H : AW w mX0_endSentence 0 0 (rV Q) 0 0 0 [some (.ref a0)] [] h) : AC w mX0_endSentence 0 0 (rV Q) [.ref a0] h := AC.ofL (by decide) (by simp [enl, Value.category]) (by simp [leL, enl, Value.category]) H
set_option maxHeartbeats 4000000 in
set_option maxRecDepth 100000 in
theorem sX0_endParagraph_0 {w : Wd} {Q : Hp → Prop} {h : Hp} {a0 : Nat} (H : (hs h a0).1 = 20 ∧ AC w mX0_endSentence 0 0 (rV fun h1 => (hs h1 a0).1 = 20 ∧ ((¬ (hI h1 a0 6) = 0 → hR h1 a0 4 ≠ 0 ∧ (hs h1 (hR h1 a0 4)).1 = 1 ∧ vp_in ((hI h1 a0 6) - 1) (hs h1 (hR h1 a0 4)).2 ∧ AW w mX0_endParagraph 0 0 (rV Q) 0 0 26 [some (.ref a0), none] [.int (hI h1 (hR h1 a0 4) ((hI h1 a0 6) - 1).toNatClampNeg)] h1) ∧ ((hI h1 a0 6) = 0 → AW w mX0_endParagraph 0 0 (rV Q) 0 0 26 [some (.ref a0), none] [.int 0] h1))) [.ref a0] h) : AW w mX0_endParagraph 0 0 (rV Q) 0 0 0 [some (.ref a0), none] [] h := by
  refine aw_aload_n 1 dX0_endParagraph_0 rfl rfl ?_
  obtain ⟨g1, H⟩ := H
  refine aw_callV (stk := []) (ci := 0) [] 4 dX0_endParagraph_1 rfl mv_X0_52 ⟨by decide, by decide⟩ g1 (by intro r hr; cases hr; rfl) rfl rfl (by simp [Value.category]) (by decide) H ?_
  rintro _ h1 ⟨rfl, H⟩
  refine aw_aload_n 5 dX0_endParagraph_4 rfl rfl ?_
  obtain ⟨g2, H⟩ := H
  refine aw_getI 8 dX0_endParagraph_5 rfl fl_X0_42 (by decide) g2 ?_
  refine aw_if_ne 15 11 dX0_endParagraph_8 rfl (by decide) (fun c3 => ?_) (fun c3 => ?_)
  · replace H := H.1 c3
    refine aw_aload_n 16 dX0_endParagraph_15 rfl rfl ?_
    obtain ⟨g4, H⟩ := H
    refine aw_getR 19 dX0_endParagraph_16 rfl fl_X0_32 ir_0_4 g2 rfl g4 ?_
    refine aw_aload_n 20 dX0_endParagraph_19 rfl rfl ?_
    refine aw_getI 23 dX0_endParagraph_20 rfl fl_X0_42 (by decide) g2 ?_
    refine aw_iconst (v := 1) 24 dX0_endParagraph_23 rfl (by decide) ?_
    refine aw_isub 25 dX0_endParagraph_24 rfl ?_
    obtain ⟨g5, H⟩ := H
    obtain ⟨g6, H⟩ := H
    refine aw_iald 26 dX0_endParagraph_25 rfl (Or.inl (shp g5)) g6 ?_
    exact H
  · replace H := H.2 c3
    refine aw_iconst (v := 0) 12 dX0_endParagraph_11 rfl (by decide) ?_
    refine aw_goto 26 dX0_endParagraph_12 (by decide) ?_
    exact H
theorem eX0_endParagraph {w : Wd} {Q : Hp → Prop} {h : Hp} {a0 : Nat} (H : AW w mX0_endParagraph 0 0 (rV Q) 0 0 0 [some (.ref a0), none] [] h) : AC w mX0_endParagraph 0 0 (rV Q) [.ref a0] h := AC.ofL (by decide) (by simp [enl, Value.category]) (by simp [leL, enl, Value.category]) H
set_option maxHeartbeats 4000000 in
set_option maxRecDepth 100000 in
theorem sX0_endParagraph_26 {w : Wd} {Q : Hp → Prop} {h : Hp} {a0 : Nat} {y0 : Int32} (H : (hs h a0).1 = 20 ∧ (((hI h a0 5) ≤ y0 → Q h) ∧ (¬ (hI h a0 5) ≤ y0 → hR h a0 4 ≠ 0 ∧ (hs h (hR h a0 4)).1 = 1 ∧ vp_in (hI h a0 6) (hs h (hR h a0 4)).2 ∧ ∀ h1, h1 = sI h (hR h a0 4) (hI h a0 6).toNatClampNeg (hI h a0 5) → ∀ h2, h2 = sI h1 a0 6 ((hI h1 a0 6) + 1) → Q h2))) : AW w mX0_endParagraph 0 0 (rV Q) 0 0 26 [some (.ref a0), none] [.int y0] h := by
  refine aw_istore_n (loc' := [some (.ref a0), some (.int y0)]) 27 dX0_endParagraph_26 rfl (by decide) rfl ?_
  refine aw_aload_n 28 dX0_endParagraph_27 rfl rfl ?_
  obtain ⟨g1, H⟩ := H
  refine aw_getI 31 dX0_endParagraph_28 rfl fl_X0_39 (by decide) g1 ?_
  refine aw_iload_n 32 dX0_endParagraph_31 rfl rfl ?_
  refine aw_icmp_le 58 35 dX0_endParagraph_32 rfl (by decide) (fun c2 => ?_) (fun c2 => ?_)
  · replace H := H.1 c2
    exact aw_return dX0_endParagraph_58 rfl (by decide) (by decide) ⟨rfl, H⟩
  · replace H := H.2 c2
    refine aw_aload_n 36 dX0_endParagraph_35 rfl rfl ?_
    obtain ⟨g3, H⟩ := H
    refine aw_getR 39 dX0_endParagraph_36 rfl fl_X0_32 ir_0_4 g1 rfl g3 ?_
    refine aw_aload_n 40 dX0_endParagraph_39 rfl rfl ?_
    refine aw_getI 43 dX0_endParagraph_40 rfl fl_X0_42 (by decide) g1 ?_
    refine aw_aload_n 44 dX0_endParagraph_43 rfl rfl ?_
    refine aw_getI 47 dX0_endParagraph_44 rfl fl_X0_39 (by decide) g1 ?_
    obtain ⟨g4, H⟩ := H
    obtain ⟨g5, H⟩ := H
    refine aw_iast 48 dX0_endParagraph_47 rfl (shp g4) g5 ?_
    replace H := H _ rfl
    refine aw_aload_n 49 dX0_endParagraph_48 rfl rfl ?_
    refine aw_dup 50 dX0_endParagraph_49 rfl rfl ?_
    refine aw_getI 53 dX0_endParagraph_50 rfl fl_X0_42 (by decide) g1 ?_
    refine aw_iconst (v := 1) 54 dX0_endParagraph_53 rfl (by decide) ?_
    refine aw_iadd 55 dX0_endParagraph_54 rfl ?_
    refine aw_putI 58 dX0_endParagraph_55 rfl fl_X0_42 (by decide) g1 nf_0_6 ?_
    replace H := H _ rfl
    exact aw_return dX0_endParagraph_58 rfl (by decide) (by decide) ⟨rfl, H⟩
set_option maxHeartbeats 4000000 in
set_option maxRecDepth 100000 in
theorem sX0_hasRun_0 {w : Wd} {Q : Int32 → Hp → Prop} {h : Hp} {a0 : Nat} {x1 : Int32} {x2 : Int32} (H : ((x2 = 0 → Q 1 h) ∧ (¬ x2 = 0 → ((x1 < 0 → Q 0 h) ∧ (¬ x1 < 0 → (hs h a0).1 = 20 ∧ ((((hI h a0 5) - x2) < x1 → Q 0 h) ∧ (¬ ((hI h a0 5) - x2) < x1 → Q 1 h))))))) : AW w mX0_hasRun 0 0 (rI Q) 0 0 0 [some (.ref a0), some (.int x1), some (.int x2)] [] h := by
  refine aw_iload_n 1 dX0_hasRun_0 rfl rfl ?_
  refine aw_if_eq 18 4 dX0_hasRun_1 rfl (by decide) (fun c1 => ?_) (fun c1 => ?_)
  · replace H := H.1 c1
    refine aw_iconst (v := 1) 19 dX0_hasRun_18 rfl (by decide) ?_
    refine aw_goto 23 dX0_hasRun_19 (by decide) ?_
    exact aw_zreturn dX0_hasRun_23 rfl (by decide) (by decide) (by decide) ⟨_, rfl, H⟩
  · replace H := H.2 c1
    refine aw_iload_n 5 dX0_hasRun_4 rfl rfl ?_
    refine aw_if_lt 22 8 dX0_hasRun_5 rfl (by decide) (fun c2 => ?_) (fun c2 => ?_)
    · replace H := H.1 c2
      refine aw_iconst (v := 0) 23 dX0_hasRun_22 rfl (by decide) ?_
      exact aw_zreturn dX0_hasRun_23 rfl (by decide) (by decide) (by decide) ⟨_, rfl, H⟩
    · replace H := H.2 c2
      refine aw_iload_n 9 dX0_hasRun_8 rfl rfl ?_
      refine aw_aload_n 10 dX0_hasRun_9 rfl rfl ?_
      obtain ⟨g3, H⟩ := H
      refine aw_getI 13 dX0_hasRun_10 rfl fl_X0_39 (by decide) g3 ?_
      refine aw_iload_n 14 dX0_hasRun_13 rfl rfl ?_
      refine aw_isub 15 dX0_hasRun_14 rfl ?_
      refine aw_icmp_gt 22 18 dX0_hasRun_15 rfl (by decide) (fun c4 => ?_) (fun c4 => ?_)
      · replace H := H.1 c4
        refine aw_iconst (v := 0) 23 dX0_hasRun_22 rfl (by decide) ?_
        exact aw_zreturn dX0_hasRun_23 rfl (by decide) (by decide) (by decide) ⟨_, rfl, H⟩
      · replace H := H.2 c4
        refine aw_iconst (v := 1) 19 dX0_hasRun_18 rfl (by decide) ?_
        refine aw_goto 23 dX0_hasRun_19 (by decide) ?_
        exact aw_zreturn dX0_hasRun_23 rfl (by decide) (by decide) (by decide) ⟨_, rfl, H⟩
theorem eX0_hasRun {w : Wd} {Q : Int32 → Hp → Prop} {h : Hp} {a0 : Nat} {x1 : Int32} {x2 : Int32} (H : AW w mX0_hasRun 0 0 (rI Q) 0 0 0 [some (.ref a0), some (.int x1), some (.int x2)] [] h) : AC w mX0_hasRun 0 0 (rI Q) [.ref a0, .int x1, .int x2] h := AC.ofL (by decide) (by simp [enl, Value.category]) (by simp [leL, enl, Value.category]) H
set_option maxHeartbeats 4000000 in
set_option maxRecDepth 100000 in
theorem sX0_wordsOf_0 {w : Wd} {Q : Int32 → Hp → Prop} {h : Hp} {a0 : Nat} {x1 : Int32} {x2 : Int32} (H : AW w mX0_wordsOf 0 0 (rI Q) 0 0 5 [some (.ref a0), some (.int x1), some (.int x2), some (.int 0), some (.int x1)] [] h) : AW w mX0_wordsOf 0 0 (rI Q) 0 0 0 [some (.ref a0), some (.int x1), some (.int x2), none, none] [] h := by
  refine aw_iconst (v := 0) 1 dX0_wordsOf_0 rfl (by decide) ?_
  refine aw_istore_n (loc' := [some (.ref a0), some (.int x1), some (.int x2), some (.int 0), none]) 2 dX0_wordsOf_1 rfl (by decide) rfl ?_
  refine aw_iload_n 3 dX0_wordsOf_2 rfl rfl ?_
  refine aw_istore (loc' := [some (.ref a0), some (.int x1), some (.int x2), some (.int 0), some (.int x1)]) 5 dX0_wordsOf_3 rfl (by decide) rfl ?_
  exact H
theorem eX0_wordsOf {w : Wd} {Q : Int32 → Hp → Prop} {h : Hp} {a0 : Nat} {x1 : Int32} {x2 : Int32} (H : AW w mX0_wordsOf 0 0 (rI Q) 0 0 0 [some (.ref a0), some (.int x1), some (.int x2), none, none] [] h) : AC w mX0_wordsOf 0 0 (rI Q) [.ref a0, .int x1, .int x2] h := AC.ofL (by decide) (by simp [enl, Value.category]) (by simp [leL, enl, Value.category]) H
set_option maxHeartbeats 4000000 in
set_option maxRecDepth 100000 in
theorem sX0_wordsOf_5 {w : Wd} {Q : Int32 → Hp → Prop} {h : Hp} {a0 : Nat} {x1 : Int32} {x2 : Int32} {x3 : Int32} {x4 : Int32} (H : (((x1 + x2) ≤ x4 → Q x3 h) ∧ (¬ (x1 + x2) ≤ x4 → (hs h a0).1 = 20 ∧ hR h a0 2 ≠ 0 ∧ (hs h (hR h a0 2)).1 = 1 ∧ vp_in x4 (hs h (hR h a0 2)).2 ∧ AW w mX0_wordsOf 0 0 (rI Q) 0 0 5 [some (.ref a0), some (.int x1), some (.int x2), some (.int (x3 + (hI h (hR h a0 2) x4.toNatClampNeg))), some (.int (x4 + 1))] [] h))) : AW w mX0_wordsOf 0 0 (rI Q) 0 0 5 [some (.ref a0), some (.int x1), some (.int x2), some (.int x3), some (.int x4)] [] h := by
  refine aw_iload 7 dX0_wordsOf_5 rfl rfl ?_
  refine aw_iload_n 8 dX0_wordsOf_7 rfl rfl ?_
  refine aw_iload_n 9 dX0_wordsOf_8 rfl rfl ?_
  refine aw_iadd 10 dX0_wordsOf_9 rfl ?_
  refine aw_icmp_ge 29 13 dX0_wordsOf_10 rfl (by decide) (fun c1 => ?_) (fun c1 => ?_)
  · replace H := H.1 c1
    refine aw_iload_n 30 dX0_wordsOf_29 rfl rfl ?_
    exact aw_ireturn dX0_wordsOf_30 rfl (by decide) (by decide) ⟨_, rfl, H⟩
  · replace H := H.2 c1
    refine aw_iload_n 14 dX0_wordsOf_13 rfl rfl ?_
    refine aw_aload_n 15 dX0_wordsOf_14 rfl rfl ?_
    obtain ⟨g2, H⟩ := H
    obtain ⟨g3, H⟩ := H
    refine aw_getR 18 dX0_wordsOf_15 rfl fl_X0_25 ir_0_2 g2 rfl g3 ?_
    refine aw_iload 20 dX0_wordsOf_18 rfl rfl ?_
    obtain ⟨g4, H⟩ := H
    obtain ⟨g5, H⟩ := H
    refine aw_iald 21 dX0_wordsOf_20 rfl (Or.inl (shp g4)) g5 ?_
    refine aw_iadd 22 dX0_wordsOf_21 rfl ?_
    refine aw_istore_n (loc' := [some (.ref a0), some (.int x1), some (.int x2), some (.int (x3 + (hI h (hR h a0 2) x4.toNatClampNeg))), some (.int x4)]) 23 dX0_wordsOf_22 rfl (by decide) rfl ?_
    refine aw_iinc (y := 1) (loc' := [some (.ref a0), some (.int x1), some (.int x2), some (.int (x3 + (hI h (hR h a0 2) x4.toNatClampNeg))), some (.int (x4 + 1))]) 26 dX0_wordsOf_23 rfl (by decide) rfl (by decide) rfl ?_
    refine aw_goto 5 dX0_wordsOf_26 (by decide) ?_
    exact H
set_option maxHeartbeats 4000000 in
set_option maxRecDepth 100000 in
theorem sX0_lengthOf_0 {w : Wd} {Q : Int32 → Hp → Prop} {h : Hp} {a0 : Nat} {x1 : Int32} {x2 : Int32} (H : AW w mX0_lengthOf 0 0 (rI Q) 0 0 5 [some (.ref a0), some (.int x1), some (.int x2), some (.int 0), some (.int x1), none] [] h) : AW w mX0_lengthOf 0 0 (rI Q) 0 0 0 [some (.ref a0), some (.int x1), some (.int x2), none, none, none] [] h := by
  refine aw_iconst (v := 0) 1 dX0_lengthOf_0 rfl (by decide) ?_
  refine aw_istore_n (loc' := [some (.ref a0), some (.int x1), some (.int x2), some (.int 0), none, none]) 2 dX0_lengthOf_1 rfl (by decide) rfl ?_
  refine aw_iload_n 3 dX0_lengthOf_2 rfl rfl ?_
  refine aw_istore (loc' := [some (.ref a0), some (.int x1), some (.int x2), some (.int 0), some (.int x1), none]) 5 dX0_lengthOf_3 rfl (by decide) rfl ?_
  exact H
theorem eX0_lengthOf {w : Wd} {Q : Int32 → Hp → Prop} {h : Hp} {a0 : Nat} {x1 : Int32} {x2 : Int32} (H : AW w mX0_lengthOf 0 0 (rI Q) 0 0 0 [some (.ref a0), some (.int x1), some (.int x2), none, none, none] [] h) : AC w mX0_lengthOf 0 0 (rI Q) [.ref a0, .int x1, .int x2] h := AC.ofL (by decide) (by simp [enl, Value.category]) (by simp [leL, enl, Value.category]) H
set_option maxHeartbeats 4000000 in
set_option maxRecDepth 100000 in
theorem sX0_lengthOf_5 {w : Wd} {Q : Int32 → Hp → Prop} {h : Hp} {a0 : Nat} {x1 : Int32} {x2 : Int32} {x3 : Int32} {x4 : Int32} (H : (((x1 + x2) ≤ x4 → Q x3 h) ∧ (¬ (x1 + x2) ≤ x4 → AW w mX0_lengthOf 0 0 (rI Q) 0 0 16 [some (.ref a0), some (.int x1), some (.int x2), some (.int x3), some (.int x4), some (.int 0)] [] h))) : AW w mX0_lengthOf 0 0 (rI Q) 0 0 5 [some (.ref a0), some (.int x1), some (.int x2), some (.int x3), some (.int x4), none] [] h := by
  refine aw_iload 7 dX0_lengthOf_5 rfl rfl ?_
  refine aw_iload_n 8 dX0_lengthOf_7 rfl rfl ?_
  refine aw_iload_n 9 dX0_lengthOf_8 rfl rfl ?_
  refine aw_iadd 10 dX0_lengthOf_9 rfl ?_
  refine aw_icmp_ge 60 13 dX0_lengthOf_10 rfl (by decide) (fun c1 => ?_) (fun c1 => ?_)
  · replace H := H.1 c1
    refine aw_iload_n 61 dX0_lengthOf_60 rfl rfl ?_
    exact aw_ireturn dX0_lengthOf_61 rfl (by decide) (by decide) ⟨_, rfl, H⟩
  · replace H := H.2 c1
    refine aw_iconst (v := 0) 14 dX0_lengthOf_13 rfl (by decide) ?_
    refine aw_istore (loc' := [some (.ref a0), some (.int x1), some (.int x2), some (.int x3), some (.int x4), some (.int 0)]) 16 dX0_lengthOf_14 rfl (by decide) rfl ?_
    exact H
set_option maxHeartbeats 4000000 in
set_option maxRecDepth 100000 in
theorem sX0_lengthOf_16 {w : Wd} {Q : Int32 → Hp → Prop} {h : Hp} {a0 : Nat} {x1 : Int32} {x2 : Int32} {x3 : Int32} {x4 : Int32} {x5 : Int32} (H : (hs h a0).1 = 20 ∧ hR h a0 2 ≠ 0 ∧ (hs h (hR h a0 2)).1 = 1 ∧ vp_in x4 (hs h (hR h a0 2)).2 ∧ (((hI h (hR h a0 2) x4.toNatClampNeg) ≤ x5 → AW w mX0_lengthOf 0 0 (rI Q) 0 0 5 [some (.ref a0), some (.int x1), some (.int x2), some (.int x3), some (.int (x4 + 1)), none] [] h) ∧ (¬ (hI h (hR h a0 2) x4.toNatClampNeg) ≤ x5 → hR h a0 0 ≠ 0 ∧ hR h a0 1 ≠ 0 ∧ (hs h (hR h a0 1)).1 = 6 ∧ vp_in x4 (hs h (hR h a0 1)).2 ∧ hR h (hR h a0 1) x4.toNatClampNeg ≠ 0 ∧ (hs h (hR h (hR h a0 1) x4.toNatClampNeg)).1 = 1 ∧ vp_in x5 (hs h (hR h (hR h a0 1) x4.toNatClampNeg)).2 ∧ (hs h (hR h a0 0)).1 = 28 ∧ AC w mX8_lengthAt 0 0 (rI fun r1 h1 => AW w mX0_lengthOf 0 0 (rI Q) 0 0 16 [some (.ref a0), some (.int x1), some (.int x2), some (.int (x3 + r1)), some (.int x4), some (.int (x5 + 1))] [] h1) [.ref (hR h a0 0), .int (hI h (hR h (hR h a0 1) x4.toNatClampNeg) x5.toNatClampNeg)] h))) : AW w mX0_lengthOf 0 0 (rI Q) 0 0 16 [some (.ref a0), some (.int x1), some (.int x2), some (.int x3), some (.int x4), some (.int x5)] [] h := by
  refine aw_iload 18 dX0_lengthOf_16 rfl rfl ?_
  refine aw_aload_n 19 dX0_lengthOf_18 rfl rfl ?_
  obtain ⟨g1, H⟩ := H
  obtain ⟨g2, H⟩ := H
  refine aw_getR 22 dX0_lengthOf_19 rfl fl_X0_25 ir_0_2 g1 rfl g2 ?_
  refine aw_iload 24 dX0_lengthOf_22 rfl rfl ?_
  obtain ⟨g3, H⟩ := H
  obtain ⟨g4, H⟩ := H
  refine aw_iald 25 dX0_lengthOf_24 rfl (Or.inl (shp g3)) g4 ?_
  refine aw_icmp_ge 54 28 dX0_lengthOf_25 rfl (by decide) (fun c5 => ?_) (fun c5 => ?_)
  · replace H := H.1 c5
    refine aw_iinc (y := 1) (loc' := [some (.ref a0), some (.int x1), some (.int x2), some (.int x3), some (.int (x4 + 1)), some (.int x5)]) 57 dX0_lengthOf_54 rfl (by decide) rfl (by decide) rfl ?_
    refine aw_goto 5 dX0_lengthOf_57 (by decide) ?_
    exact aw_fgt (by simp [leL]) H
  · replace H := H.2 c5
    refine aw_iload_n 29 dX0_lengthOf_28 rfl rfl ?_
    refine aw_aload_n 30 dX0_lengthOf_29 rfl rfl ?_
    obtain ⟨g6, H⟩ := H
    refine aw_getR 33 dX0_lengthOf_30 rfl fl_X0_14 ir_0_0 g1 rfl g6 ?_
    refine aw_aload_n 34 dX0_lengthOf_33 rfl rfl ?_
    obtain ⟨g7, H⟩ := H
    refine aw_getR 37 dX0_lengthOf_34 rfl fl_X0_22 ir_0_1 g1 rfl g7 ?_
    refine aw_iload 39 dX0_lengthOf_37 rfl rfl ?_
    obtain ⟨g8, H⟩ := H
    obtain ⟨g9, H⟩ := H
    obtain ⟨g10, H⟩ := H
    refine aw_aald 40 dX0_lengthOf_39 rfl (shp g8) (by decide) g9 rfl g10 ?_
    refine aw_iload 42 dX0_lengthOf_40 rfl rfl ?_
    obtain ⟨g11, H⟩ := H
    obtain ⟨g12, H⟩ := H
    refine aw_iald 43 dX0_lengthOf_42 rfl (Or.inl (shp g11)) g12 ?_
    obtain ⟨g13, H⟩ := H
    refine aw_callV (stk := [.int x3]) (ci := 8) [.int (hI h (hR h (hR h a0 1) x4.toNatClampNeg) x5.toNatClampNeg)] 46 dX0_lengthOf_43 rfl mv_X0_55 ⟨by decide, by decide⟩ g13 (by intro r hr; cases hr; rfl) rfl rfl (by simp [Value.category]) (by decide) H ?_
    rintro _ h1 ⟨r1, rfl, H⟩
    refine aw_iadd 47 dX0_lengthOf_46 rfl ?_
    refine aw_istore_n (loc' := [some (.ref a0), some (.int x1), some (.int x2), some (.int (x3 + r1)), some (.int x4), some (.int x5)]) 48 dX0_lengthOf_47 rfl (by decide) rfl ?_
    refine aw_iinc (y := 1) (loc' := [some (.ref a0), some (.int x1), some (.int x2), some (.int (x3 + r1)), some (.int x4), some (.int (x5 + 1))]) 51 dX0_lengthOf_48 rfl (by decide) rfl (by decide) rfl ?_
    refine aw_goto 16 dX0_lengthOf_51 (by decide) ?_
    exact H
set_option maxHeartbeats 4000000 in
set_option maxRecDepth 100000 in
theorem sX0_kindsIn_0 {w : Wd} {Q : Int64 → Hp → Prop} {h : Hp} {a0 : Nat} {x1 : Int32} {x2 : Int32} (H : AW w mX0_kindsIn 0 0 (rL Q) 0 0 5 [some (.ref a0), some (.int x1), some (.int x2), some (.long 0), none, some (.int x1), none] [] h) : AW w mX0_kindsIn 0 0 (rL Q) 0 0 0 [some (.ref a0), some (.int x1), some (.int x2), none, none, none, none] [] h := by
  refine aw_lconst (v := 0) 1 dX0_kindsIn_0 rfl (by decide) ?_
  refine aw_lstore_n (loc' := [some (.ref a0), some (.int x1), some (.int x2), some (.long 0), none, none, none]) 2 dX0_kindsIn_1 rfl (by decide) rfl ?_
  refine aw_iload_n 3 dX0_kindsIn_2 rfl rfl ?_
  refine aw_istore (loc' := [some (.ref a0), some (.int x1), some (.int x2), some (.long 0), none, some (.int x1), none]) 5 dX0_kindsIn_3 rfl (by decide) rfl ?_
  exact H
theorem eX0_kindsIn {w : Wd} {Q : Int64 → Hp → Prop} {h : Hp} {a0 : Nat} {x1 : Int32} {x2 : Int32} (H : AW w mX0_kindsIn 0 0 (rL Q) 0 0 0 [some (.ref a0), some (.int x1), some (.int x2), none, none, none, none] [] h) : AC w mX0_kindsIn 0 0 (rL Q) [.ref a0, .int x1, .int x2] h := AC.ofL (by decide) (by simp [enl, Value.category]) (by simp [leL, enl, Value.category]) H
set_option maxHeartbeats 4000000 in
set_option maxRecDepth 100000 in
theorem sX0_kindsIn_5 {w : Wd} {Q : Int64 → Hp → Prop} {h : Hp} {a0 : Nat} {x1 : Int32} {x2 : Int32} {l3 : Int64} {x5 : Int32} (H : (((x1 + x2) ≤ x5 → Q l3 h) ∧ (¬ (x1 + x2) ≤ x5 → AW w mX0_kindsIn 0 0 (rL Q) 0 0 16 [some (.ref a0), some (.int x1), some (.int x2), some (.long l3), none, some (.int x5), some (.int 0)] [] h))) : AW w mX0_kindsIn 0 0 (rL Q) 0 0 5 [some (.ref a0), some (.int x1), some (.int x2), some (.long l3), none, some (.int x5), none] [] h := by
  refine aw_iload 7 dX0_kindsIn_5 rfl rfl ?_
  refine aw_iload_n 8 dX0_kindsIn_7 rfl rfl ?_
  refine aw_iload_n 9 dX0_kindsIn_8 rfl rfl ?_
  refine aw_iadd 10 dX0_kindsIn_9 rfl ?_
  refine aw_icmp_ge 55 13 dX0_kindsIn_10 rfl (by decide) (fun c1 => ?_) (fun c1 => ?_)
  · replace H := H.1 c1
    refine aw_lload_n 56 dX0_kindsIn_55 rfl rfl ?_
    exact aw_lreturn dX0_kindsIn_56 rfl (by decide) (by decide) ⟨_, rfl, H⟩
  · replace H := H.2 c1
    refine aw_iconst (v := 0) 14 dX0_kindsIn_13 rfl (by decide) ?_
    refine aw_istore (loc' := [some (.ref a0), some (.int x1), some (.int x2), some (.long l3), none, some (.int x5), some (.int 0)]) 16 dX0_kindsIn_14 rfl (by decide) rfl ?_
    exact H
set_option maxHeartbeats 4000000 in
set_option maxRecDepth 100000 in
theorem sX0_kindsIn_16 {w : Wd} {Q : Int64 → Hp → Prop} {h : Hp} {a0 : Nat} {x1 : Int32} {x2 : Int32} {l3 : Int64} {x5 : Int32} {x6 : Int32} (H : (hs h a0).1 = 20 ∧ hR h a0 2 ≠ 0 ∧ (hs h (hR h a0 2)).1 = 1 ∧ vp_in x5 (hs h (hR h a0 2)).2 ∧ (((hI h (hR h a0 2) x5.toNatClampNeg) ≤ x6 → AW w mX0_kindsIn 0 0 (rL Q) 0 0 5 [some (.ref a0), some (.int x1), some (.int x2), some (.long l3), none, some (.int (x5 + 1)), none] [] h) ∧ (¬ (hI h (hR h a0 2) x5.toNatClampNeg) ≤ x6 → hR h a0 1 ≠ 0 ∧ (hs h (hR h a0 1)).1 = 6 ∧ vp_in x5 (hs h (hR h a0 1)).2 ∧ hR h (hR h a0 1) x5.toNatClampNeg ≠ 0 ∧ (hs h (hR h (hR h a0 1) x5.toNatClampNeg)).1 = 1 ∧ vp_in x6 (hs h (hR h (hR h a0 1) x5.toNatClampNeg)).2 ∧ AW w mX0_kindsIn 0 0 (rL Q) 0 0 16 [some (.ref a0), some (.int x1), some (.int x2), some (.long (l3 ||| (1 <<< ((hI h (hR h (hR h a0 1) x5.toNatClampNeg) x6.toNatClampNeg).toInt64 &&& 63)))), none, some (.int x5), some (.int (x6 + 1))] [] h))) : AW w mX0_kindsIn 0 0 (rL Q) 0 0 16 [some (.ref a0), some (.int x1), some (.int x2), some (.long l3), none, some (.int x5), some (.int x6)] [] h := by
  refine aw_iload 18 dX0_kindsIn_16 rfl rfl ?_
  refine aw_aload_n 19 dX0_kindsIn_18 rfl rfl ?_
  obtain ⟨g1, H⟩ := H
  obtain ⟨g2, H⟩ := H
  refine aw_getR 22 dX0_kindsIn_19 rfl fl_X0_25 ir_0_2 g1 rfl g2 ?_
  refine aw_iload 24 dX0_kindsIn_22 rfl rfl ?_
  obtain ⟨g3, H⟩ := H
  obtain ⟨g4, H⟩ := H
  refine aw_iald 25 dX0_kindsIn_24 rfl (Or.inl (shp g3)) g4 ?_
  refine aw_icmp_ge 49 28 dX0_kindsIn_25 rfl (by decide) (fun c5 => ?_) (fun c5 => ?_)
  · replace H := H.1 c5
    refine aw_iinc (y := 1) (loc' := [some (.ref a0), some (.int x1), some (.int x2), some (.long l3), none, some (.int (x5 + 1)), some (.int x6)]) 52 dX0_kindsIn_49 rfl (by decide) rfl (by decide) rfl ?_
    refine aw_goto 5 dX0_kindsIn_52 (by decide) ?_
    exact aw_fgt (by simp [leL]) H
  · replace H := H.2 c5
    refine aw_lload_n 29 dX0_kindsIn_28 rfl rfl ?_
    refine aw_lconst (v := 1) 30 dX0_kindsIn_29 rfl (by decide) ?_
    refine aw_aload_n 31 dX0_kindsIn_30 rfl rfl ?_
    obtain ⟨g6, H⟩ := H
    refine aw_getR 34 dX0_kindsIn_31 rfl fl_X0_22 ir_0_1 g1 rfl g6 ?_
    refine aw_iload 36 dX0_kindsIn_34 rfl rfl ?_
    obtain ⟨g7, H⟩ := H
    obtain ⟨g8, H⟩ := H
    obtain ⟨g9, H⟩ := H
    refine aw_aald 37 dX0_kindsIn_36 rfl (shp g7) (by decide) g8 rfl g9 ?_
    refine aw_iload 39 dX0_kindsIn_37 rfl rfl ?_
    obtain ⟨g10, H⟩ := H
    obtain ⟨g11, H⟩ := H
    refine aw_iald 40 dX0_kindsIn_39 rfl (Or.inl (shp g10)) g11 ?_
    refine aw_lshl 41 dX0_kindsIn_40 rfl ?_
    refine aw_lor 42 dX0_kindsIn_41 rfl ?_
    refine aw_lstore_n (loc' := [some (.ref a0), some (.int x1), some (.int x2), some (.long (l3 ||| (1 <<< ((hI h (hR h (hR h a0 1) x5.toNatClampNeg) x6.toNatClampNeg).toInt64 &&& 63)))), none, some (.int x5), some (.int x6)]) 43 dX0_kindsIn_42 rfl (by decide) rfl ?_
    refine aw_iinc (y := 1) (loc' := [some (.ref a0), some (.int x1), some (.int x2), some (.long (l3 ||| (1 <<< ((hI h (hR h (hR h a0 1) x5.toNatClampNeg) x6.toNatClampNeg).toInt64 &&& 63)))), none, some (.int x5), some (.int (x6 + 1))]) 46 dX0_kindsIn_43 rfl (by decide) rfl (by decide) rfl ?_
    refine aw_goto 16 dX0_kindsIn_46 (by decide) ?_
    exact H
set_option maxHeartbeats 4000000 in
set_option maxRecDepth 100000 in
theorem sX1_readWords_0 {w : Wd} {Q : Int32 → Hp → Prop} {h : Hp} {a0 : Nat} (H : AW w mX1_readWords 0 0 (rI Q) 0 0 4 [some (.ref a0), some (.int 0), some (.int 0)] [] h) : AW w mX1_readWords 0 0 (rI Q) 0 0 0 [some (.ref a0), none, none] [] h := by
  refine aw_iconst (v := 0) 1 dX1_readWords_0 rfl (by decide) ?_
  refine aw_istore_n (loc' := [some (.ref a0), some (.int 0), none]) 2 dX1_readWords_1 rfl (by decide) rfl ?_
  refine aw_iconst (v := 0) 3 dX1_readWords_2 rfl (by decide) ?_
  refine aw_istore_n (loc' := [some (.ref a0), some (.int 0), some (.int 0)]) 4 dX1_readWords_3 rfl (by decide) rfl ?_
  exact H
theorem eX1_readWords {w : Wd} {Q : Int32 → Hp → Prop} {h : Hp} {a0 : Nat} (H : AW w mX1_readWords 0 0 (rI Q) 0 0 0 [some (.ref a0), none, none] [] h) : AC w mX1_readWords 0 0 (rI Q) [.ref a0] h := AC.ofL (by decide) (by simp [enl, Value.category]) (by simp [leL, enl, Value.category]) H
set_option maxHeartbeats 4000000 in
set_option maxRecDepth 100000 in
theorem sX1_readWords_4 {w : Wd} {Q : Int32 → Hp → Prop} {h : Hp} {a0 : Nat} {x1 : Int32} {x2 : Int32} (H : (hs h a0).1 = 21 ∧ hR h a0 0 ≠ 0 ∧ (hs h (hR h a0 0)).1 = 26 ∧ (((hI h (hR h a0 0) 1) ≤ x2 → Q x1 h) ∧ (¬ (hI h (hR h a0 0) 1) ≤ x2 → AC w mX6_isLetterAt 0 0 (rI fun r1 h1 => ((r1 = 0 → AW w mX1_readWords 0 0 (rI Q) 0 0 4 [some (.ref a0), some (.int x1), some (.int (x2 + 1))] [] h1) ∧ (¬ r1 = 0 → (hs h1 a0).1 = 21 ∧ hR h1 a0 0 ≠ 0 ∧ (hs h1 (hR h1 a0 0)).1 = 26 ∧ AC w mX6_isLetterAt 0 0 (rI fun r2 h2 => ((¬ r2 = 0 → (hs h2 a0).1 = 21 ∧ AC w mX1_keepLetter 0 0 (rV fun h3 => AW w mX1_readWords 0 0 (rI Q) 0 0 4 [some (.ref a0), some (.int x1), some (.int (x2 + 1))] [] h3) [.ref a0, .int x2] h2) ∧ (r2 = 0 → (hs h2 a0).1 = 21 ∧ ∀ h4, h4 = sI h2 a0 3 0 → AC w mX1_keepLetter 0 0 (rV fun h5 => AW w mX1_readWords 0 0 (rI Q) 0 0 4 [some (.ref a0), some (.int (x1 + 1)), some (.int (x2 + 1))] [] h5) [.ref a0, .int x2] h4))) [.ref (hR h1 a0 0), .int (x2 - 1)] h1))) [.ref (hR h a0 0), .int x2] h))) : AW w mX1_readWords 0 0 (rI Q) 0 0 4 [some (.ref a0), some (.int x1), some (.int x2)] [] h := by
  refine aw_iload_n 5 dX1_readWords_4 rfl rfl ?_
  refine aw_aload_n 6 dX1_readWords_5 rfl rfl ?_
  obtain ⟨g1, H⟩ := H
  obtain ⟨g2, H⟩ := H
  refine aw_getR 9 dX1_readWords_6 rfl fl_X1_15 ir_1_0 g1 rfl g2 ?_
  obtain ⟨g3, H⟩ := H
  refine aw_getI 12 dX1_readWords_9 rfl fl_X1_23 (by decide) g3 ?_
  refine aw_icmp_ge 58 15 dX1_readWords_12 rfl (by decide) (fun c4 => ?_) (fun c4 => ?_)
  · replace H := H.1 c4
    refine aw_iload_n 59 dX1_readWords_58 rfl rfl ?_
    exact aw_ireturn dX1_readWords_59 rfl (by decide) (by decide) ⟨_, rfl, H⟩
  · replace H := H.2 c4
    refine aw_aload_n 16 dX1_readWords_15 rfl rfl ?_
    refine aw_getR 19 dX1_readWords_16 rfl fl_X1_15 ir_1_0 g1 rfl g2 ?_
    refine aw_iload_n 20 dX1_readWords_19 rfl rfl ?_
    refine aw_callV (stk := []) (ci := 6) [.int x2] 23 dX1_readWords_20 rfl mv_X1_29 ⟨by decide, by decide⟩ g3 (by intro r hr; cases hr; rfl) rfl rfl (by simp [Value.category]) (by decide) H ?_
    rintro _ h1 ⟨r1, rfl, H⟩
    refine aw_if_eq 52 26 dX1_readWords_23 rfl (by decide) (fun c5 => ?_) (fun c5 => ?_)
    · replace H := H.1 c5
      refine aw_iinc (y := 1) (loc' := [some (.ref a0), some (.int x1), some (.int (x2 + 1))]) 55 dX1_readWords_52 rfl (by decide) rfl (by decide) rfl ?_
      refine aw_goto 4 dX1_readWords_55 (by decide) ?_
      exact H
    · replace H := H.2 c5
      refine aw_aload_n 27 dX1_readWords_26 rfl rfl ?_
      obtain ⟨g6, H⟩ := H
      obtain ⟨g7, H⟩ := H
      refine aw_getR 30 dX1_readWords_27 rfl fl_X1_15 ir_1_0 g6 rfl g7 ?_
      refine aw_iload_n 31 dX1_readWords_30 rfl rfl ?_
      refine aw_iconst (v := 1) 32 dX1_readWords_31 rfl (by decide) ?_
      refine aw_isub 33 dX1_readWords_32 rfl ?_
      obtain ⟨g8, H⟩ := H
      refine aw_callV (stk := []) (ci := 6) [.int (x2 - 1)] 36 dX1_readWords_33 rfl mv_X1_29 ⟨by decide, by decide⟩ g8 (by intro r hr; cases hr; rfl) rfl rfl (by simp [Value.category]) (by decide) H ?_
      rintro _ h2 ⟨r2, rfl, H⟩
      refine aw_if_ne 47 39 dX1_readWords_36 rfl (by decide) (fun c9 => ?_) (fun c9 => ?_)
      · replace H := H.1 c9
        refine aw_aload_n 48 dX1_readWords_47 rfl rfl ?_
        refine aw_iload_n 49 dX1_readWords_48 rfl rfl ?_
        obtain ⟨g10, H⟩ := H
        refine aw_callV (stk := []) (ci := 1) [.int x2] 52 dX1_readWords_49 rfl mv_X1_36 ⟨by decide, by decide⟩ g10 (by intro r hr; cases hr; rfl) rfl rfl (by simp [Value.category]) (by decide) H ?_
        rintro _ h3 ⟨rfl, H⟩
        refine aw_iinc (y := 1) (loc' := [some (.ref a0), some (.int x1), some (.int (x2 + 1))]) 55 dX1_readWords_52 rfl (by decide) rfl (by decide) rfl ?_
        refine aw_goto 4 dX1_readWords_55 (by decide) ?_
        exact H
      · replace H := H.2 c9
        refine aw_iinc (y := 1) (loc' := [some (.ref a0), some (.int (x1 + 1)), some (.int x2)]) 42 dX1_readWords_39 rfl (by decide) rfl (by decide) rfl ?_
        refine aw_aload_n 43 dX1_readWords_42 rfl rfl ?_
        refine aw_iconst (v := 0) 44 dX1_readWords_43 rfl (by decide) ?_
        obtain ⟨g11, H⟩ := H
        refine aw_putI 47 dX1_readWords_44 rfl fl_X1_33 (by decide) g11 nf_1_3 ?_
        replace H := H _ rfl
        refine aw_aload_n 48 dX1_readWords_47 rfl rfl ?_
        refine aw_iload_n 49 dX1_readWords_48 rfl rfl ?_
        refine aw_callV (stk := []) (ci := 1) [.int x2] 52 dX1_readWords_49 rfl mv_X1_36 ⟨by decide, by decide⟩ g11 (by intro r hr; cases hr; rfl) rfl rfl (by simp [Value.category]) (by decide) H ?_
        rintro _ h5 ⟨rfl, H⟩
        refine aw_iinc (y := 1) (loc' := [some (.ref a0), some (.int (x1 + 1)), some (.int (x2 + 1))]) 55 dX1_readWords_52 rfl (by decide) rfl (by decide) rfl ?_
        refine aw_goto 4 dX1_readWords_55 (by decide) ?_
        exact H
set_option maxHeartbeats 4000000 in
set_option maxRecDepth 100000 in
theorem sX1_fill_0 {w : Wd} {Q : Int32 → Hp → Prop} {h : Hp} {a0 : Nat} {a1 : Nat} (H : (hs h a1).1 = 20 ∧ AC w mX0_makeEmpty 0 0 (rV fun h1 => (hs h1 a0).1 = 21 ∧ ∀ h2, h2 = sI h1 a0 3 0 → AW w mX1_fill 0 0 (rI Q) 0 0 11 [some (.ref a0), some (.ref a1), some (.int 0)] [] h2) [.ref a1] h) : AW w mX1_fill 0 0 (rI Q) 0 0 0 [some (.ref a0), some (.ref a1), none] [] h := by
  refine aw_aload_n 1 dX1_fill_0 rfl rfl ?_
  obtain ⟨g1, H⟩ := H
  refine aw_callV (stk := []) (ci := 0) [] 4 dX1_fill_1 rfl mv_X1_40 ⟨by decide, by decide⟩ g1 (by intro r hr; cases hr; rfl) rfl rfl (by simp [Value.category]) (by decide) H ?_
  rintro _ h1 ⟨rfl, H⟩
  refine aw_aload_n 5 dX1_fill_4 rfl rfl ?_
  refine aw_iconst (v := 0) 6 dX1_fill_5 rfl (by decide) ?_
  obtain ⟨g2, H⟩ := H
  refine aw_putI 9 dX1_fill_6 rfl fl_X1_33 (by decide) g2 nf_1_3 ?_
  replace H := H _ rfl
  refine aw_iconst (v := 0) 10 dX1_fill_9 rfl (by decide) ?_
  refine aw_istore_n (loc' := [some (.ref a0), some (.ref a1), some (.int 0)]) 11 dX1_fill_10 rfl (by decide) rfl ?_
  exact H
theorem eX1_fill {w : Wd} {Q : Int32 → Hp → Prop} {h : Hp} {a0 : Nat} {a1 : Nat} (H : AW w mX1_fill 0 0 (rI Q) 0 0 0 [some (.ref a0), some (.ref a1), none] [] h) : AC w mX1_fill 0 0 (rI Q) [.ref a0, .ref a1] h := AC.ofL (by decide) (by simp [enl, Value.category]) (by simp [leL, enl, Value.category]) H
set_option maxHeartbeats 4000000 in
set_option maxRecDepth 100000 in
theorem sX1_fill_11 {w : Wd} {Q : Int32 → Hp → Prop} {h : Hp} {a0 : Nat} {a1 : Nat} {x2 : Int32} (H : (hs h a0).1 = 21 ∧ hR h a0 0 ≠ 0 ∧ (hs h (hR h a0 0)).1 = 26 ∧ (((hI h (hR h a0 0) 1) ≤ x2 → AC w mX1_part 0 0 (rI fun r1 h1 => (r1 = 0 ∨ r1 = 1) ∧ Q r1 h1) [.ref a0, .ref a1, .int 10] h) ∧ (¬ (hI h (hR h a0 0) 1) ≤ x2 → AC w mX6_isLetterAt 0 0 (rI fun r2 h2 => ((r2 = 0 → (hs h2 a0).1 = 21 ∧ hR h2 a0 0 ≠ 0 ∧ (hs h2 (hR h2 a0 0)).1 = 26 ∧ AC w mX6_smallAt 0 0 (rI fun r3 h3 => (hs h3 a0).1 = 21 ∧ AC w mX1_part 0 0 (rI fun r4 h4 => ((¬ r4 = 0 → AW w mX1_fill 0 0 (rI Q) 0 0 11 [some (.ref a0), some (.ref a1), some (.int (x2 + 1))] [] h4) ∧ (r4 = 0 → Q 0 h4))) [.ref a0, .ref a1, .int r3] h3) [.ref (hR h2 a0 0), .int x2] h2) ∧ (¬ r2 = 0 → (hs h2 a0).1 = 21 ∧ AC w mX1_keepLetter 0 0 (rV fun h5 => AW w mX1_fill 0 0 (rI Q) 0 0 11 [some (.ref a0), some (.ref a1), some (.int (x2 + 1))] [] h5) [.ref a0, .int x2] h2))) [.ref (hR h a0 0), .int x2] h))) : AW w mX1_fill 0 0 (rI Q) 0 0 11 [some (.ref a0), some (.ref a1), some (.int x2)] [] h := by
  refine aw_iload_n 12 dX1_fill_11 rfl rfl ?_
  refine aw_aload_n 13 dX1_fill_12 rfl rfl ?_
  obtain ⟨g1, H⟩ := H
  obtain ⟨g2, H⟩ := H
  refine aw_getR 16 dX1_fill_13 rfl fl_X1_15 ir_1_0 g1 rfl g2 ?_
  obtain ⟨g3, H⟩ := H
  refine aw_getI 19 dX1_fill_16 rfl fl_X1_23 (by decide) g3 ?_
  refine aw_icmp_ge 65 22 dX1_fill_19 rfl (by decide) (fun c4 => ?_) (fun c4 => ?_)
  · replace H := H.1 c4
    refine aw_aload_n 66 dX1_fill_65 rfl rfl ?_
    refine aw_aload_n 67 dX1_fill_66 rfl rfl ?_
    refine aw_bipush (v := 10) 69 dX1_fill_67 rfl (by decide) ?_
    refine aw_callV (stk := []) (ci := 1) [.ref a1, .int 10] 72 dX1_fill_69 rfl mv_X1_49 ⟨by decide, by decide⟩ g1 (by intro r hr; cases hr; rfl) rfl rfl (by simp [Value.category]) (by decide) H ?_
    rintro _ h1 ⟨r1, rfl, H⟩
    obtain ⟨g5, H⟩ := H
    exact aw_zreturn dX1_fill_72 rfl g5 (by decide) (by decide) ⟨_, rfl, H⟩
  · replace H := H.2 c4
    refine aw_aload_n 23 dX1_fill_22 rfl rfl ?_
    refine aw_getR 26 dX1_fill_23 rfl fl_X1_15 ir_1_0 g1 rfl g2 ?_
    refine aw_iload_n 27 dX1_fill_26 rfl rfl ?_
    refine aw_callV (stk := []) (ci := 6) [.int x2] 30 dX1_fill_27 rfl mv_X1_29 ⟨by decide, by decide⟩ g3 (by intro r hr; cases hr; rfl) rfl rfl (by simp [Value.category]) (by decide) H ?_
    rintro _ h2 ⟨r2, rfl, H⟩
    refine aw_if_eq 41 33 dX1_fill_30 rfl (by decide) (fun c6 => ?_) (fun c6 => ?_)
    · replace H := H.1 c6
      refine aw_aload_n 42 dX1_fill_41 rfl rfl ?_
      refine aw_aload_n 43 dX1_fill_42 rfl rfl ?_
      refine aw_aload_n 44 dX1_fill_43 rfl rfl ?_
      obtain ⟨g7, H⟩ := H
      obtain ⟨g8, H⟩ := H
      refine aw_getR 47 dX1_fill_44 rfl fl_X1_15 ir_1_0 g7 rfl g8 ?_
      refine aw_iload_n 48 dX1_fill_47 rfl rfl ?_
      obtain ⟨g9, H⟩ := H
      refine aw_callV (stk := [.ref a1, .ref a0]) (ci := 6) [.int x2] 51 dX1_fill_48 rfl mv_X1_45 ⟨by decide, by decide⟩ g9 (by intro r hr; cases hr; rfl) rfl rfl (by simp [Value.category]) (by decide) H ?_
      rintro _ h3 ⟨r3, rfl, H⟩
      obtain ⟨g10, H⟩ := H
      refine aw_callV (stk := []) (ci := 1) [.ref a1, .int r3] 54 dX1_fill_51 rfl mv_X1_49 ⟨by decide, by decide⟩ g10 (by intro r hr; cases hr; rfl) rfl rfl (by simp [Value.category]) (by decide) H ?_
      rintro _ h4 ⟨r4, rfl, H⟩
      refine aw_if_ne 59 57 dX1_fill_54 rfl (by decide) (fun c11 => ?_) (fun c11 => ?_)
      · replace H := H.1 c11
        refine aw_iinc (y := 1) (loc' := [some (.ref a0), some (.ref a1), some (.int (x2 + 1))]) 62 dX1_fill_59 rfl (by decide) rfl (by decide) rfl ?_
        refine aw_goto 11 dX1_fill_62 (by decide) ?_
        exact H
      · replace H := H.2 c11
        refine aw_iconst (v := 0) 58 dX1_fill_57 rfl (by decide) ?_
        exact aw_zreturn dX1_fill_58 rfl (by decide) (by decide) (by decide) ⟨_, rfl, H⟩
    · replace H := H.2 c6
      refine aw_aload_n 34 dX1_fill_33 rfl rfl ?_
      refine aw_iload_n 35 dX1_fill_34 rfl rfl ?_
      obtain ⟨g12, H⟩ := H
      refine aw_callV (stk := []) (ci := 1) [.int x2] 38 dX1_fill_35 rfl mv_X1_36 ⟨by decide, by decide⟩ g12 (by intro r hr; cases hr; rfl) rfl rfl (by simp [Value.category]) (by decide) H ?_
      rintro _ h5 ⟨rfl, H⟩
      refine aw_goto 59 dX1_fill_38 (by decide) ?_
      refine aw_iinc (y := 1) (loc' := [some (.ref a0), some (.ref a1), some (.int (x2 + 1))]) 62 dX1_fill_59 rfl (by decide) rfl (by decide) rfl ?_
      refine aw_goto 11 dX1_fill_62 (by decide) ?_
      exact H
set_option maxHeartbeats 4000000 in
set_option maxRecDepth 100000 in
theorem sX1_keepLetter_0 {w : Wd} {Q : Hp → Prop} {h : Hp} {a0 : Nat} {x1 : Int32} (H : (hs h a0).1 = 21 ∧ ((10 ≤ (hI h a0 3) → Q h) ∧ (¬ 10 ≤ (hI h a0 3) → hR h a0 2 ≠ 0 ∧ hR h a0 0 ≠ 0 ∧ (hs h (hR h a0 0)).1 = 26 ∧ AC w mX6_smallAt 0 0 (rI fun r1 h1 => (hs h1 (hR h a0 2)).1 = 2 ∧ vp_in (hI h a0 3) (hs h1 (hR h a0 2)).2 ∧ ∀ h2, h2 = sI h1 (hR h a0 2) (hI h a0 3).toNatClampNeg (vp_nar .byte r1.toInt8.toInt32) → (hs h1 a0).1 = 21 ∧ ∀ h3, h3 = sI h2 a0 3 ((hI h2 a0 3) + 1) → Q h3) [.ref (hR h a0 0), .int x1] h))) : AW w mX1_keepLetter 0 0 (rV Q) 0 0 0 [some (.ref a0), some (.int x1)] [] h := by
  refine aw_aload_n 1 dX1_keepLetter_0 rfl rfl ?_
  obtain ⟨g1, H⟩ := H
  refine aw_getI 4 dX1_keepLetter_1 rfl fl_X1_33 (by decide) g1 ?_
  refine aw_bipush (v := 10) 6 dX1_keepLetter_4 rfl (by decide) ?_
  refine aw_icmp_ge 37 9 dX1_keepLetter_6 rfl (by decide) (fun c2 => ?_) (fun c2 => ?_)
  · replace H := H.1 c2
    exact aw_return dX1_keepLetter_37 rfl (by decide) (by decide) ⟨rfl, H⟩
  · replace H := H.2 c2
    refine aw_aload_n 10 dX1_keepLetter_9 rfl rfl ?_
    obtain ⟨g3, H⟩ := H
    refine aw_getR 13 dX1_keepLetter_10 rfl fl_X1_9 ir_1_2 g1 rfl g3 ?_
    refine aw_aload_n 14 dX1_keepLetter_13 rfl rfl ?_
    refine aw_getI 17 dX1_keepLetter_14 rfl fl_X1_33 (by decide) g1 ?_
    refine aw_aload_n 18 dX1_keepLetter_17 rfl rfl ?_
    obtain ⟨g4, H⟩ := H
    refine aw_getR 21 dX1_keepLetter_18 rfl fl_X1_15 ir_1_0 g1 rfl g4 ?_
    refine aw_iload_n 22 dX1_keepLetter_21 rfl rfl ?_
    obtain ⟨g5, H⟩ := H
    refine aw_callV (stk := [.int (hI h a0 3), .ref (hR h a0 2)]) (ci := 6) [.int x1] 25 dX1_keepLetter_22 rfl mv_X1_45 ⟨by decide, by decide⟩ g5 (by intro r hr; cases hr; rfl) rfl rfl (by simp [Value.category]) (by decide) H ?_
    rintro _ h1 ⟨r1, rfl, H⟩
    refine aw_i2b 26 dX1_keepLetter_25 rfl ?_
    obtain ⟨g6, H⟩ := H
    obtain ⟨g7, H⟩ := H
    refine aw_bast 27 dX1_keepLetter_26 rfl (shp g6) g7 ?_
    replace H := H _ rfl
    refine aw_aload_n 28 dX1_keepLetter_27 rfl rfl ?_
    refine aw_dup 29 dX1_keepLetter_28 rfl rfl ?_
    obtain ⟨g8, H⟩ := H
    refine aw_getI 32 dX1_keepLetter_29 rfl fl_X1_33 (by decide) g8 ?_
    refine aw_iconst (v := 1) 33 dX1_keepLetter_32 rfl (by decide) ?_
    refine aw_iadd 34 dX1_keepLetter_33 rfl ?_
    refine aw_putI 37 dX1_keepLetter_34 rfl fl_X1_33 (by decide) g8 nf_1_3 ?_
    replace H := H _ rfl
    exact aw_return dX1_keepLetter_37 rfl (by decide) (by decide) ⟨rfl, H⟩
theorem eX1_keepLetter {w : Wd} {Q : Hp → Prop} {h : Hp} {a0 : Nat} {x1 : Int32} (H : AW w mX1_keepLetter 0 0 (rV Q) 0 0 0 [some (.ref a0), some (.int x1)] [] h) : AC w mX1_keepLetter 0 0 (rV Q) [.ref a0, .int x1] h := AC.ofL (by decide) (by simp [enl, Value.category]) (by simp [leL, enl, Value.category]) H
set_option maxHeartbeats 4000000 in
set_option maxRecDepth 100000 in
theorem sX1_part_0 {w : Wd} {Q : Int32 → Hp → Prop} {h : Hp} {a0 : Nat} {a1 : Nat} {x2 : Int32} (H : (hs h a0).1 = 21 ∧ (((hI h a0 3) ≤ 0 → AW w mX1_part 0 0 (rI Q) 0 0 31 [some (.ref a0), some (.ref a1), some (.int x2), none] [.int 0] h) ∧ (¬ (hI h a0 3) ≤ 0 → hR h a0 1 ≠ 0 ∧ hR h a0 2 ≠ 0 ∧ (hs h (hR h a0 1)).1 = 28 ∧ AC w mX8_indexOf 0 0 (rI fun r1 h1 => ((r1 = (-1) → AW w mX1_part 0 0 (rI Q) 0 0 31 [some (.ref a0), some (.ref a1), some (.int x2), none] [.int 0] h1) ∧ (¬ r1 = (-1) → AW w mX1_part 0 0 (rI Q) 0 0 31 [some (.ref a0), some (.ref a1), some (.int x2), none] [.int 1] h1))) [.ref (hR h a0 1), .ref (hR h a0 2), .int (hI h a0 3)] h))) : AW w mX1_part 0 0 (rI Q) 0 0 0 [some (.ref a0), some (.ref a1), some (.int x2), none] [] h := by
  refine aw_aload_n 1 dX1_part_0 rfl rfl ?_
  obtain ⟨g1, H⟩ := H
  refine aw_getI 4 dX1_part_1 rfl fl_X1_33 (by decide) g1 ?_
  refine aw_if_le 30 7 dX1_part_4 rfl (by decide) (fun c2 => ?_) (fun c2 => ?_)
  · replace H := H.1 c2
    refine aw_iconst (v := 0) 31 dX1_part_30 rfl (by decide) ?_
    exact H
  · replace H := H.2 c2
    refine aw_aload_n 8 dX1_part_7 rfl rfl ?_
    obtain ⟨g3, H⟩ := H
    refine aw_getR 11 dX1_part_8 rfl fl_X1_19 ir_1_1 g1 rfl g3 ?_
    refine aw_aload_n 12 dX1_part_11 rfl rfl ?_
    obtain ⟨g4, H⟩ := H
    refine aw_getR 15 dX1_part_12 rfl fl_X1_9 ir_1_2 g1 rfl g4 ?_
    refine aw_aload_n 16 dX1_part_15 rfl rfl ?_
    refine aw_getI 19 dX1_part_16 rfl fl_X1_33 (by decide) g1 ?_
    obtain ⟨g5, H⟩ := H
    refine aw_callV (stk := []) (ci := 8) [.ref (hR h a0 2), .int (hI h a0 3)] 22 dX1_part_19 rfl mv_X1_53 ⟨by decide, by decide⟩ g5 (by intro r hr; cases hr; rfl) rfl rfl (by simp [Value.category]) (by decide) H ?_
    rintro _ h1 ⟨r1, rfl, H⟩
    refine aw_iconst (v := (-1)) 23 dX1_part_22 rfl (by decide) ?_
    refine aw_icmp_eq 30 26 dX1_part_23 rfl (by decide) (fun c6 => ?_) (fun c6 => ?_)
    · replace H := H.1 c6
      refine aw_iconst (v := 0) 31 dX1_part_30 rfl (by decide) ?_
      exact H
    · replace H := H.2 c6
      refine aw_iconst (v := 1) 27 dX1_part_26 rfl (by decide) ?_
      refine aw_goto 31 dX1_part_27 (by decide) ?_
      exact H
theorem eX1_part {w : Wd} {Q : Int32 → Hp → Prop} {h : Hp} {a0 : Nat} {a1 : Nat} {x2 : Int32} (H : AW w mX1_part 0 0 (rI Q) 0 0 0 [some (.ref a0), some (.ref a1), some (.int x2), none] [] h) : AC w mX1_part 0 0 (rI Q) [.ref a0, .ref a1, .int x2] h := AC.ofL (by decide) (by simp [enl, Value.category]) (by simp [leL, enl, Value.category]) H
set_option maxHeartbeats 4000000 in
set_option maxRecDepth 100000 in
theorem sX1_part_31 {w : Wd} {Q : Int32 → Hp → Prop} {h : Hp} {a0 : Nat} {a1 : Nat} {x2 : Int32} {y0 : Int32} (H : (hs h a0).1 = 21 ∧ (((hI h a0 3) ≤ 0 → AW w mX1_part 0 0 (rI Q) 0 0 56 [some (.ref a0), some (.ref a1), some (.int x2), some (.int y0)] [] h) ∧ (¬ (hI h a0 3) ≤ 0 → hR h a0 2 ≠ 0 ∧ (hs h a1).1 = 20 ∧ AC w mX0_addWord 0 0 (rI fun r1 h1 => ((¬ r1 = 0 → AW w mX1_part 0 0 (rI Q) 0 0 56 [some (.ref a0), some (.ref a1), some (.int x2), some (.int y0)] [] h1) ∧ (r1 = 0 → Q 0 h1))) [.ref a1, .ref (hR h a0 2), .int (hI h a0 3)] h))) : AW w mX1_part 0 0 (rI Q) 0 0 31 [some (.ref a0), some (.ref a1), some (.int x2), none] [.int y0] h := by
  refine aw_istore_n (loc' := [some (.ref a0), some (.ref a1), some (.int x2), some (.int y0)]) 32 dX1_part_31 rfl (by decide) rfl ?_
  refine aw_aload_n 33 dX1_part_32 rfl rfl ?_
  obtain ⟨g1, H⟩ := H
  refine aw_getI 36 dX1_part_33 rfl fl_X1_33 (by decide) g1 ?_
  refine aw_if_le 56 39 dX1_part_36 rfl (by decide) (fun c2 => ?_) (fun c2 => ?_)
  · replace H := H.1 c2
    exact H
  · replace H := H.2 c2
    refine aw_aload_n 40 dX1_part_39 rfl rfl ?_
    refine aw_aload_n 41 dX1_part_40 rfl rfl ?_
    obtain ⟨g3, H⟩ := H
    refine aw_getR 44 dX1_part_41 rfl fl_X1_9 ir_1_2 g1 rfl g3 ?_
    refine aw_aload_n 45 dX1_part_44 rfl rfl ?_
    refine aw_getI 48 dX1_part_45 rfl fl_X1_33 (by decide) g1 ?_
    obtain ⟨g4, H⟩ := H
    refine aw_callV (stk := []) (ci := 0) [.ref (hR h a0 2), .int (hI h a0 3)] 51 dX1_part_48 rfl mv_X1_59 ⟨by decide, by decide⟩ g4 (by intro r hr; cases hr; rfl) rfl rfl (by simp [Value.category]) (by decide) H ?_
    rintro _ h1 ⟨r1, rfl, H⟩
    refine aw_if_ne 56 54 dX1_part_51 rfl (by decide) (fun c5 => ?_) (fun c5 => ?_)
    · replace H := H.1 c5
      exact H
    · replace H := H.2 c5
      refine aw_iconst (v := 0) 55 dX1_part_54 rfl (by decide) ?_
      exact aw_zreturn dX1_part_55 rfl (by decide) (by decide) (by decide) ⟨_, rfl, H⟩
set_option maxHeartbeats 4000000 in
set_option maxRecDepth 100000 in
theorem sX1_part_56 {w : Wd} {Q : Int32 → Hp → Prop} {h : Hp} {a0 : Nat} {a1 : Nat} {x2 : Int32} {x3 : Int32} (H : (hs h a0).1 = 21 ∧ ∀ h1, h1 = sI h a0 3 0 → ((¬ x2 = 10 → ((x2 = 33 → (hs h a1).1 = 20 ∧ AC w mX0_endSentence 0 0 (rV fun h2 => Q 1 h2) [.ref a1] h1) ∧ (¬ x2 = 33 → ((x2 = 63 → (hs h a1).1 = 20 ∧ AC w mX0_endSentence 0 0 (rV fun h3 => Q 1 h3) [.ref a1] h1) ∧ (¬ x2 = 63 → ((¬ x2 = 46 → Q 1 h1) ∧ (x2 = 46 → ((¬ x3 = 0 → Q 1 h1) ∧ (x3 = 0 → (hs h a1).1 = 20 ∧ AC w mX0_endSentence 0 0 (rV fun h4 => Q 1 h4) [.ref a1] h1))))))))) ∧ (x2 = 10 → (hs h a1).1 = 20 ∧ AC w mX0_endParagraph 0 0 (rV fun h5 => Q 1 h5) [.ref a1] h1))) : AW w mX1_part 0 0 (rI Q) 0 0 56 [some (.ref a0), some (.ref a1), some (.int x2), some (.int x3)] [] h := by
  refine aw_aload_n 57 dX1_part_56 rfl rfl ?_
  refine aw_iconst (v := 0) 58 dX1_part_57 rfl (by decide) ?_
  obtain ⟨g1, H⟩ := H
  refine aw_putI 61 dX1_part_58 rfl fl_X1_33 (by decide) g1 nf_1_3 ?_
  replace H := H _ rfl
  refine aw_iload_n 62 dX1_part_61 rfl rfl ?_
  refine aw_bipush (v := 10) 64 dX1_part_62 rfl (by decide) ?_
  refine aw_icmp_ne 74 67 dX1_part_64 rfl (by decide) (fun c2 => ?_) (fun c2 => ?_)
  · replace H := H.1 c2
    refine aw_iload_n 75 dX1_part_74 rfl rfl ?_
    refine aw_bipush (v := 33) 77 dX1_part_75 rfl (by decide) ?_
    refine aw_icmp_eq 96 80 dX1_part_77 rfl (by decide) (fun c3 => ?_) (fun c3 => ?_)
    · replace H := H.1 c3
      refine aw_aload_n 97 dX1_part_96 rfl rfl ?_
      obtain ⟨g4, H⟩ := H
      refine aw_callV (stk := []) (ci := 0) [] 100 dX1_part_97 rfl mv_X1_66 ⟨by decide, by decide⟩ g4 (by intro r hr; cases hr; rfl) rfl rfl (by simp [Value.category]) (by decide) H ?_
      rintro _ h2 ⟨rfl, H⟩
      refine aw_iconst (v := 1) 101 dX1_part_100 rfl (by decide) ?_
      exact aw_zreturn dX1_part_101 rfl (by decide) (by decide) (by decide) ⟨_, rfl, H⟩
    · replace H := H.2 c3
      refine aw_iload_n 81 dX1_part_80 rfl rfl ?_
      refine aw_bipush (v := 63) 83 dX1_part_81 rfl (by decide) ?_
      refine aw_icmp_eq 96 86 dX1_part_83 rfl (by decide) (fun c5 => ?_) (fun c5 => ?_)
      · replace H := H.1 c5
        refine aw_aload_n 97 dX1_part_96 rfl rfl ?_
        obtain ⟨g6, H⟩ := H
        refine aw_callV (stk := []) (ci := 0) [] 100 dX1_part_97 rfl mv_X1_66 ⟨by decide, by decide⟩ g6 (by intro r hr; cases hr; rfl) rfl rfl (by simp [Value.category]) (by decide) H ?_
        rintro _ h3 ⟨rfl, H⟩
        refine aw_iconst (v := 1) 101 dX1_part_100 rfl (by decide) ?_
        exact aw_zreturn dX1_part_101 rfl (by decide) (by decide) (by decide) ⟨_, rfl, H⟩
      · replace H := H.2 c5
        refine aw_iload_n 87 dX1_part_86 rfl rfl ?_
        refine aw_bipush (v := 46) 89 dX1_part_87 rfl (by decide) ?_
        refine aw_icmp_ne 100 92 dX1_part_89 rfl (by decide) (fun c7 => ?_) (fun c7 => ?_)
        · replace H := H.1 c7
          refine aw_iconst (v := 1) 101 dX1_part_100 rfl (by decide) ?_
          exact aw_zreturn dX1_part_101 rfl (by decide) (by decide) (by decide) ⟨_, rfl, H⟩
        · replace H := H.2 c7
          refine aw_iload_n 93 dX1_part_92 rfl rfl ?_
          refine aw_if_ne 100 96 dX1_part_93 rfl (by decide) (fun c8 => ?_) (fun c8 => ?_)
          · replace H := H.1 c8
            refine aw_iconst (v := 1) 101 dX1_part_100 rfl (by decide) ?_
            exact aw_zreturn dX1_part_101 rfl (by decide) (by decide) (by decide) ⟨_, rfl, H⟩
          · replace H := H.2 c8
            refine aw_aload_n 97 dX1_part_96 rfl rfl ?_
            obtain ⟨g9, H⟩ := H
            refine aw_callV (stk := []) (ci := 0) [] 100 dX1_part_97 rfl mv_X1_66 ⟨by decide, by decide⟩ g9 (by intro r hr; cases hr; rfl) rfl rfl (by simp [Value.category]) (by decide) H ?_
            rintro _ h4 ⟨rfl, H⟩
            refine aw_iconst (v := 1) 101 dX1_part_100 rfl (by decide) ?_
            exact aw_zreturn dX1_part_101 rfl (by decide) (by decide) (by decide) ⟨_, rfl, H⟩
  · replace H := H.2 c2
    refine aw_aload_n 68 dX1_part_67 rfl rfl ?_
    obtain ⟨g10, H⟩ := H
    refine aw_callV (stk := []) (ci := 0) [] 71 dX1_part_68 rfl mv_X1_63 ⟨by decide, by decide⟩ g10 (by intro r hr; cases hr; rfl) rfl rfl (by simp [Value.category]) (by decide) H ?_
    rintro _ h5 ⟨rfl, H⟩
    refine aw_goto 100 dX1_part_71 (by decide) ?_
    refine aw_iconst (v := 1) 101 dX1_part_100 rfl (by decide) ?_
    exact aw_zreturn dX1_part_101 rfl (by decide) (by decide) (by decide) ⟨_, rfl, H⟩
set_option maxHeartbeats 4000000 in
set_option maxRecDepth 100000 in
theorem sX3_forgetAll_0 {w : Wd} {Q : Hp → Prop} {h : Hp} {a0 : Nat} (H : (hs h a0).1 = 23 ∧ hR h a0 0 ≠ 0 ∧ AC w mJ7_fill_53178 0 0 (rV fun h1 => (hs h1 a0).1 = 23 ∧ hR h1 a0 1 ≠ 0 ∧ AC w mJ7_fill_53178 0 0 (rV fun h2 => (hs h2 a0).1 = 23 ∧ ∀ h3, h3 = sI h2 a0 2 0 → Q h3) [.ref (hR h1 a0 1), .int (-1)] h1) [.ref (hR h a0 0), .int (-1)] h) : AW w mX3_forgetAll 0 0 (rV Q) 0 0 0 [some (.ref a0)] [] h := by
  refine aw_aload_n 1 dX3_forgetAll_0 rfl rfl ?_
  obtain ⟨g1, H⟩ := H
  obtain ⟨g2, H⟩ := H
  refine aw_getR 4 dX3_forgetAll_1 rfl fl_X3_9 ir_3_0 g1 rfl g2 ?_
  refine aw_iconst (v := (-1)) 5 dX3_forgetAll_4 rfl (by decide) ?_
  refine aw_callS (stk := []) [.ref (hR h a0 0), .int (-1)] 8 dX3_forgetAll_5 rfl mv_X3_18 ⟨by decide, by decide⟩ rfl rfl (by simp [Value.category]) (by decide) H ?_
  rintro _ h1 ⟨rfl, H⟩
  refine aw_aload_n 9 dX3_forgetAll_8 rfl rfl ?_
  obtain ⟨g3, H⟩ := H
  obtain ⟨g4, H⟩ := H
  refine aw_getR 12 dX3_forgetAll_9 rfl fl_X3_15 ir_3_1 g3 rfl g4 ?_
  refine aw_iconst (v := (-1)) 13 dX3_forgetAll_12 rfl (by decide) ?_
  refine aw_callS (stk := []) [.ref (hR h1 a0 1), .int (-1)] 16 dX3_forgetAll_13 rfl mv_X3_18 ⟨by decide, by decide⟩ rfl rfl (by simp [Value.category]) (by decide) H ?_
  rintro _ h2 ⟨rfl, H⟩
  refine aw_aload_n 17 dX3_forgetAll_16 rfl rfl ?_
  refine aw_iconst (v := 0) 18 dX3_forgetAll_17 rfl (by decide) ?_
  obtain ⟨g5, H⟩ := H
  refine aw_putI 21 dX3_forgetAll_18 rfl fl_X3_24 (by decide) g5 nf_3_2 ?_
  replace H := H _ rfl
  exact aw_return dX3_forgetAll_21 rfl (by decide) (by decide) ⟨rfl, H⟩
theorem eX3_forgetAll {w : Wd} {Q : Hp → Prop} {h : Hp} {a0 : Nat} (H : AW w mX3_forgetAll 0 0 (rV Q) 0 0 0 [some (.ref a0)] [] h) : AC w mX3_forgetAll 0 0 (rV Q) [.ref a0] h := AC.ofL (by decide) (by simp [enl, Value.category]) (by simp [leL, enl, Value.category]) H
set_option maxHeartbeats 4000000 in
set_option maxRecDepth 100000 in
theorem sX3_mayTie_0 {w : Wd} {Q : Int32 → Hp → Prop} {h : Hp} {a0 : Nat} {x1 : Int32} {x2 : Int32} (H : (hs h a0).1 = 23 ∧ hR h a0 0 ≠ 0 ∧ (hs h (hR h a0 0)).1 = 1 ∧ vp_in x1 (hs h (hR h a0 0)).2 ∧ ((¬ (hI h (hR h a0 0) x1.toNatClampNeg) = (-1) → Q 0 h) ∧ ((hI h (hR h a0 0) x1.toNatClampNeg) = (-1) → hR h a0 1 ≠ 0 ∧ (hs h (hR h a0 1)).1 = 1 ∧ vp_in x2 (hs h (hR h a0 1)).2 ∧ (((hI h (hR h a0 1) x2.toNatClampNeg) = (-1) → AW w mX3_mayTie 0 0 (rI Q) 0 0 24 [some (.ref a0), some (.int x1), some (.int x2), some (.int 0)] [] h) ∧ (¬ (hI h (hR h a0 1) x2.toNatClampNeg) = (-1) → Q 0 h))))) : AW w mX3_mayTie 0 0 (rI Q) 0 0 0 [some (.ref a0), some (.int x1), some (.int x2), none] [] h := by
  refine aw_aload_n 1 dX3_mayTie_0 rfl rfl ?_
  obtain ⟨g1, H⟩ := H
  obtain ⟨g2, H⟩ := H
  refine aw_getR 4 dX3_mayTie_1 rfl fl_X3_9 ir_3_0 g1 rfl g2 ?_
  refine aw_iload_n 5 dX3_mayTie_4 rfl rfl ?_
  obtain ⟨g3, H⟩ := H
  obtain ⟨g4, H⟩ := H
  refine aw_iald 6 dX3_mayTie_5 rfl (Or.inl (shp g3)) g4 ?_
  refine aw_iconst (v := (-1)) 7 dX3_mayTie_6 rfl (by decide) ?_
  refine aw_icmp_ne 20 10 dX3_mayTie_7 rfl (by decide) (fun c5 => ?_) (fun c5 => ?_)
  · replace H := H.1 c5
    refine aw_iconst (v := 0) 21 dX3_mayTie_20 rfl (by decide) ?_
    exact aw_zreturn dX3_mayTie_21 rfl (by decide) (by decide) (by decide) ⟨_, rfl, H⟩
  · replace H := H.2 c5
    refine aw_aload_n 11 dX3_mayTie_10 rfl rfl ?_
    obtain ⟨g6, H⟩ := H
    refine aw_getR 14 dX3_mayTie_11 rfl fl_X3_15 ir_3_1 g1 rfl g6 ?_
    refine aw_iload_n 15 dX3_mayTie_14 rfl rfl ?_
    obtain ⟨g7, H⟩ := H
    obtain ⟨g8, H⟩ := H
    refine aw_iald 16 dX3_mayTie_15 rfl (Or.inl (shp g7)) g8 ?_
    refine aw_iconst (v := (-1)) 17 dX3_mayTie_16 rfl (by decide) ?_
    refine aw_icmp_eq 22 20 dX3_mayTie_17 rfl (by decide) (fun c9 => ?_) (fun c9 => ?_)
    · replace H := H.1 c9
      refine aw_iconst (v := 0) 23 dX3_mayTie_22 rfl (by decide) ?_
      refine aw_istore_n (loc' := [some (.ref a0), some (.int x1), some (.int x2), some (.int 0)]) 24 dX3_mayTie_23 rfl (by decide) rfl ?_
      exact H
    · replace H := H.2 c9
      refine aw_iconst (v := 0) 21 dX3_mayTie_20 rfl (by decide) ?_
      exact aw_zreturn dX3_mayTie_21 rfl (by decide) (by decide) (by decide) ⟨_, rfl, H⟩
theorem eX3_mayTie {w : Wd} {Q : Int32 → Hp → Prop} {h : Hp} {a0 : Nat} {x1 : Int32} {x2 : Int32} (H : AW w mX3_mayTie 0 0 (rI Q) 0 0 0 [some (.ref a0), some (.int x1), some (.int x2), none] [] h) : AC w mX3_mayTie 0 0 (rI Q) [.ref a0, .int x1, .int x2] h := AC.ofL (by decide) (by simp [enl, Value.category]) (by simp [leL, enl, Value.category]) H
set_option maxHeartbeats 4000000 in
set_option maxRecDepth 100000 in
theorem sX3_mayTie_24 {w : Wd} {Q : Int32 → Hp → Prop} {h : Hp} {a0 : Nat} {x1 : Int32} {x2 : Int32} {x3 : Int32} (H : ((20 ≤ x3 → Q 1 h) ∧ (¬ 20 ≤ x3 → (hs h a0).1 = 23 ∧ hR h a0 0 ≠ 0 ∧ (hs h (hR h a0 0)).1 = 1 ∧ vp_in x3 (hs h (hR h a0 0)).2 ∧ (((hI h (hR h a0 0) x3.toNatClampNeg) = (-1) → AW w mX3_mayTie 0 0 (rI Q) 0 0 24 [some (.ref a0), some (.int x1), some (.int x2), some (.int (x3 + 1))] [] h) ∧ (¬ (hI h (hR h a0 0) x3.toNatClampNeg) = (-1) → AC w mX3_isAcross 0 0 (rI fun r1 h1 => ((r1 = 0 → AW w mX3_mayTie 0 0 (rI Q) 0 0 24 [some (.ref a0), some (.int x1), some (.int x2), some (.int (x3 + 1))] [] h1) ∧ (¬ r1 = 0 → Q 0 h1))) [.int (x1 - x3), .int (x2 - (hI h (hR h a0 0) x3.toNatClampNeg))] h))))) : AW w mX3_mayTie 0 0 (rI Q) 0 0 24 [some (.ref a0), some (.int x1), some (.int x2), some (.int x3)] [] h := by
  refine aw_iload_n 25 dX3_mayTie_24 rfl rfl ?_
  refine aw_bipush (v := 20) 27 dX3_mayTie_25 rfl (by decide) ?_
  refine aw_icmp_ge 65 30 dX3_mayTie_27 rfl (by decide) (fun c1 => ?_) (fun c1 => ?_)
  · replace H := H.1 c1
    refine aw_iconst (v := 1) 66 dX3_mayTie_65 rfl (by decide) ?_
    exact aw_zreturn dX3_mayTie_66 rfl (by decide) (by decide) (by decide) ⟨_, rfl, H⟩
  · replace H := H.2 c1
    refine aw_aload_n 31 dX3_mayTie_30 rfl rfl ?_
    obtain ⟨g2, H⟩ := H
    obtain ⟨g3, H⟩ := H
    refine aw_getR 34 dX3_mayTie_31 rfl fl_X3_9 ir_3_0 g2 rfl g3 ?_
    refine aw_iload_n 35 dX3_mayTie_34 rfl rfl ?_
    obtain ⟨g4, H⟩ := H
    obtain ⟨g5, H⟩ := H
    refine aw_iald 36 dX3_mayTie_35 rfl (Or.inl (shp g4)) g5 ?_
    refine aw_iconst (v := (-1)) 37 dX3_mayTie_36 rfl (by decide) ?_
    refine aw_icmp_eq 59 40 dX3_mayTie_37 rfl (by decide) (fun c6 => ?_) (fun c6 => ?_)
    · replace H := H.1 c6
      refine aw_iinc (y := 1) (loc' := [some (.ref a0), some (.int x1), some (.int x2), some (.int (x3 + 1))]) 62 dX3_mayTie_59 rfl (by decide) rfl (by decide) rfl ?_
      refine aw_goto 24 dX3_mayTie_62 (by decide) ?_
      exact H
    · replace H := H.2 c6
      refine aw_iload_n 41 dX3_mayTie_40 rfl rfl ?_
      refine aw_iload_n 42 dX3_mayTie_41 rfl rfl ?_
      refine aw_isub 43 dX3_mayTie_42 rfl ?_
      refine aw_iload_n 44 dX3_mayTie_43 rfl rfl ?_
      refine aw_aload_n 45 dX3_mayTie_44 rfl rfl ?_
      refine aw_getR 48 dX3_mayTie_45 rfl fl_X3_9 ir_3_0 g2 rfl g3 ?_
      refine aw_iload_n 49 dX3_mayTie_48 rfl rfl ?_
      refine aw_iald 50 dX3_mayTie_49 rfl (Or.inl (shp g4)) g5 ?_
      refine aw_isub 51 dX3_mayTie_50 rfl ?_
      refine aw_callS (stk := []) [.int (x1 - x3), .int (x2 - (hI h (hR h a0 0) x3.toNatClampNeg))] 54 dX3_mayTie_51 rfl mv_X3_28 ⟨by decide, by decide⟩ rfl rfl (by simp [Value.category]) (by decide) H ?_
      rintro _ h1 ⟨r1, rfl, H⟩
      refine aw_if_eq 59 57 dX3_mayTie_54 rfl (by decide) (fun c7 => ?_) (fun c7 => ?_)
      · replace H := H.1 c7
        refine aw_iinc (y := 1) (loc' := [some (.ref a0), some (.int x1), some (.int x2), some (.int (x3 + 1))]) 62 dX3_mayTie_59 rfl (by decide) rfl (by decide) rfl ?_
        refine aw_goto 24 dX3_mayTie_62 (by decide) ?_
        exact H
      · replace H := H.2 c7
        refine aw_iconst (v := 0) 58 dX3_mayTie_57 rfl (by decide) ?_
        exact aw_zreturn dX3_mayTie_58 rfl (by decide) (by decide) (by decide) ⟨_, rfl, H⟩
set_option maxHeartbeats 4000000 in
set_option maxRecDepth 100000 in
theorem sX3_isAcross_0 {w : Wd} {Q : Int32 → Hp → Prop} {h : Hp} {x0 : Int32} {x1 : Int32} (H : ((0 ≤ x0 → ((x0 ≤ 0 → AW w mX3_isAcross 0 0 (rI Q) 0 0 21 [some (.int x0), some (.int x1), none, none] [.int 0] h) ∧ (¬ x0 ≤ 0 → ((0 ≤ x1 → AW w mX3_isAcross 0 0 (rI Q) 0 0 21 [some (.int x0), some (.int x1), none, none] [.int 0] h) ∧ (¬ 0 ≤ x1 → AW w mX3_isAcross 0 0 (rI Q) 0 0 21 [some (.int x0), some (.int x1), none, none] [.int 1] h))))) ∧ (¬ 0 ≤ x0 → ((0 < x1 → AW w mX3_isAcross 0 0 (rI Q) 0 0 21 [some (.int x0), some (.int x1), none, none] [.int 1] h) ∧ (¬ 0 < x1 → ((x0 ≤ 0 → AW w mX3_isAcross 0 0 (rI Q) 0 0 21 [some (.int x0), some (.int x1), none, none] [.int 0] h) ∧ (¬ x0 ≤ 0 → ((0 ≤ x1 → AW w mX3_isAcross 0 0 (rI Q) 0 0 21 [some (.int x0), some (.int x1), none, none] [.int 0] h) ∧ (¬ 0 ≤ x1 → AW w mX3_isAcross 0 0 (rI Q) 0 0 21 [some (.int x0), some (.int x1), none, none] [.int 1] h))))))))) : AW w mX3_isAcross 0 0 (rI Q) 0 0 0 [some (.int x0), some (.int x1), none, none] [] h := by
  refine aw_iload_n 1 dX3_isAcross_0 rfl rfl ?_
  refine aw_if_ge 8 4 dX3_isAcross_1 rfl (by decide) (fun c1 => ?_) (fun c1 => ?_)
  · replace H := H.1 c1
    refine aw_iload_n 9 dX3_isAcross_8 rfl rfl ?_
    refine aw_if_le 20 12 dX3_isAcross_9 rfl (by decide) (fun c2 => ?_) (fun c2 => ?_)
    · replace H := H.1 c2
      refine aw_iconst (v := 0) 21 dX3_isAcross_20 rfl (by decide) ?_
      exact H
    · replace H := H.2 c2
      refine aw_iload_n 13 dX3_isAcross_12 rfl rfl ?_
      refine aw_if_ge 20 16 dX3_isAcross_13 rfl (by decide) (fun c3 => ?_) (fun c3 => ?_)
      · replace H := H.1 c3
        refine aw_iconst (v := 0) 21 dX3_isAcross_20 rfl (by decide) ?_
        exact H
      · replace H := H.2 c3
        refine aw_iconst (v := 1) 17 dX3_isAcross_16 rfl (by decide) ?_
        refine aw_goto 21 dX3_isAcross_17 (by decide) ?_
        exact H
  · replace H := H.2 c1
    refine aw_iload_n 5 dX3_isAcross_4 rfl rfl ?_
    refine aw_if_gt 16 8 dX3_isAcross_5 rfl (by decide) (fun c4 => ?_) (fun c4 => ?_)
    · replace H := H.1 c4
      refine aw_iconst (v := 1) 17 dX3_isAcross_16 rfl (by decide) ?_
      refine aw_goto 21 dX3_isAcross_17 (by decide) ?_
      exact H
    · replace H := H.2 c4
      refine aw_iload_n 9 dX3_isAcross_8 rfl rfl ?_
      refine aw_if_le 20 12 dX3_isAcross_9 rfl (by decide) (fun c5 => ?_) (fun c5 => ?_)
      · replace H := H.1 c5
        refine aw_iconst (v := 0) 21 dX3_isAcross_20 rfl (by decide) ?_
        exact H
      · replace H := H.2 c5
        refine aw_iload_n 13 dX3_isAcross_12 rfl rfl ?_
        refine aw_if_ge 20 16 dX3_isAcross_13 rfl (by decide) (fun c6 => ?_) (fun c6 => ?_)
        · replace H := H.1 c6
          refine aw_iconst (v := 0) 21 dX3_isAcross_20 rfl (by decide) ?_
          exact H
        · replace H := H.2 c6
          refine aw_iconst (v := 1) 17 dX3_isAcross_16 rfl (by decide) ?_
          refine aw_goto 21 dX3_isAcross_17 (by decide) ?_
          exact H
theorem eX3_isAcross {w : Wd} {Q : Int32 → Hp → Prop} {h : Hp} {x0 : Int32} {x1 : Int32} (H : AW w mX3_isAcross 0 0 (rI Q) 0 0 0 [some (.int x0), some (.int x1), none, none] [] h) : AC w mX3_isAcross 0 0 (rI Q) [.int x0, .int x1] h := AC.ofL (by decide) (by simp [enl, Value.category]) (by simp [leL, enl, Value.category]) H
set_option maxHeartbeats 4000000 in
set_option maxRecDepth 100000 in
theorem sX3_isAcross_21 {w : Wd} {Q : Int32 → Hp → Prop} {h : Hp} {x0 : Int32} {x1 : Int32} {y0 : Int32} (H : ((¬ x0 = 1 → ((¬ x0 = (-1) → AW w mX3_isAcross 0 0 (rI Q) 0 0 46 [none, none, some (.int y0), none] [] h) ∧ (x0 = (-1) → ((¬ x1 = 1 → AW w mX3_isAcross 0 0 (rI Q) 0 0 46 [none, none, some (.int y0), none] [] h) ∧ (x1 = 1 → AW w mX3_isAcross 0 0 (rI Q) 0 0 42 [none, none, some (.int y0), none] [] h))))) ∧ (x0 = 1 → ((x1 = (-1) → AW w mX3_isAcross 0 0 (rI Q) 0 0 42 [none, none, some (.int y0), none] [] h) ∧ (¬ x1 = (-1) → ((¬ x0 = (-1) → AW w mX3_isAcross 0 0 (rI Q) 0 0 46 [none, none, some (.int y0), none] [] h) ∧ (x0 = (-1) → ((¬ x1 = 1 → AW w mX3_isAcross 0 0 (rI Q) 0 0 46 [none, none, some (.int y0), none] [] h) ∧ (x1 = 1 → AW w mX3_isAcross 0 0 (rI Q) 0 0 42 [none, none, some (.int y0), none] [] h))))))))) : AW w mX3_isAcross 0 0 (rI Q) 0 0 21 [some (.int x0), some (.int x1), none, none] [.int y0] h := by
  refine aw_istore_n (loc' := [some (.int x0), some (.int x1), some (.int y0), none]) 22 dX3_isAcross_21 rfl (by decide) rfl ?_
  refine aw_iload_n 23 dX3_isAcross_22 rfl rfl ?_
  refine aw_iconst (v := 1) 24 dX3_isAcross_23 rfl (by decide) ?_
  refine aw_icmp_ne 32 27 dX3_isAcross_24 rfl (by decide) (fun c1 => ?_) (fun c1 => ?_)
  · replace H := H.1 c1
    refine aw_iload_n 33 dX3_isAcross_32 rfl rfl ?_
    refine aw_iconst (v := (-1)) 34 dX3_isAcross_33 rfl (by decide) ?_
    refine aw_icmp_ne 46 37 dX3_isAcross_34 rfl (by decide) (fun c2 => ?_) (fun c2 => ?_)
    · replace H := H.1 c2
      exact aw_fgt (by simp [leL]) H
    · replace H := H.2 c2
      refine aw_iload_n 38 dX3_isAcross_37 rfl rfl ?_
      refine aw_iconst (v := 1) 39 dX3_isAcross_38 rfl (by decide) ?_
      refine aw_icmp_ne 46 42 dX3_isAcross_39 rfl (by decide) (fun c3 => ?_) (fun c3 => ?_)
      · replace H := H.1 c3
        exact aw_fgt (by simp [leL]) H
      · replace H := H.2 c3
        exact aw_fgt (by simp [leL]) H
  · replace H := H.2 c1
    refine aw_iload_n 28 dX3_isAcross_27 rfl rfl ?_
    refine aw_iconst (v := (-1)) 29 dX3_isAcross_28 rfl (by decide) ?_
    refine aw_icmp_eq 42 32 dX3_isAcross_29 rfl (by decide) (fun c4 => ?_) (fun c4 => ?_)
    · replace H := H.1 c4
      exact aw_fgt (by simp [leL]) H
    · replace H := H.2 c4
      refine aw_iload_n 33 dX3_isAcross_32 rfl rfl ?_
      refine aw_iconst (v := (-1)) 34 dX3_isAcross_33 rfl (by decide) ?_
      refine aw_icmp_ne 46 37 dX3_isAcross_34 rfl (by decide) (fun c5 => ?_) (fun c5 => ?_)
      · replace H := H.1 c5
        exact aw_fgt (by simp [leL]) H
      · replace H := H.2 c5
        refine aw_iload_n 38 dX3_isAcross_37 rfl rfl ?_
        refine aw_iconst (v := 1) 39 dX3_isAcross_38 rfl (by decide) ?_
        refine aw_icmp_ne 46 42 dX3_isAcross_39 rfl (by decide) (fun c6 => ?_) (fun c6 => ?_)
        · replace H := H.1 c6
          exact aw_fgt (by simp [leL]) H
        · replace H := H.2 c6
          exact aw_fgt (by simp [leL]) H
set_option maxHeartbeats 4000000 in
set_option maxRecDepth 100000 in
theorem sX3_isAcross_42 {w : Wd} {Q : Int32 → Hp → Prop} {h : Hp} {x2 : Int32} (H : ((x2 = 0 → Q 0 h) ∧ (¬ x2 = 0 → Q 0 h))) : AW w mX3_isAcross 0 0 (rI Q) 0 0 42 [none, none, some (.int x2), none] [] h := by
  refine aw_iconst (v := 1) 43 dX3_isAcross_42 rfl (by decide) ?_
  refine aw_goto 47 dX3_isAcross_43 (by decide) ?_
  refine aw_istore_n (loc' := [none, none, some (.int x2), some (.int 1)]) 48 dX3_isAcross_47 rfl (by decide) rfl ?_
  refine aw_iload_n 49 dX3_isAcross_48 rfl rfl ?_
  refine aw_if_eq 60 52 dX3_isAcross_49 rfl (by decide) (fun c1 => ?_) (fun c1 => ?_)
  · replace H := H.1 c1
    refine aw_iconst (v := 0) 61 dX3_isAcross_60 rfl (by decide) ?_
    exact aw_zreturn dX3_isAcross_61 rfl (by decide) (by decide) (by decide) ⟨_, rfl, H⟩
  · replace H := H.2 c1
    refine aw_iload_n 53 dX3_isAcross_52 rfl rfl ?_
    refine aw_if_ne 60 56 dX3_isAcross_53 rfl (by decide) (fun _ => ?_) (fun c => absurd c (by decide))
    refine aw_iconst (v := 0) 61 dX3_isAcross_60 rfl (by decide) ?_
    exact aw_zreturn dX3_isAcross_61 rfl (by decide) (by decide) (by decide) ⟨_, rfl, H⟩
set_option maxHeartbeats 4000000 in
set_option maxRecDepth 100000 in
theorem sX3_isAcross_46 {w : Wd} {Q : Int32 → Hp → Prop} {h : Hp} {x2 : Int32} (H : ((x2 = 0 → Q 0 h) ∧ (¬ x2 = 0 → Q 1 h))) : AW w mX3_isAcross 0 0 (rI Q) 0 0 46 [none, none, some (.int x2), none] [] h := by
  refine aw_iconst (v := 0) 47 dX3_isAcross_46 rfl (by decide) ?_
  refine aw_istore_n (loc' := [none, none, some (.int x2), some (.int 0)]) 48 dX3_isAcross_47 rfl (by decide) rfl ?_
  refine aw_iload_n 49 dX3_isAcross_48 rfl rfl ?_
  refine aw_if_eq 60 52 dX3_isAcross_49 rfl (by decide) (fun c1 => ?_) (fun c1 => ?_)
  · replace H := H.1 c1
    refine aw_iconst (v := 0) 61 dX3_isAcross_60 rfl (by decide) ?_
    exact aw_zreturn dX3_isAcross_61 rfl (by decide) (by decide) (by decide) ⟨_, rfl, H⟩
  · replace H := H.2 c1
    refine aw_iload_n 53 dX3_isAcross_52 rfl rfl ?_
    refine aw_if_ne 60 56 dX3_isAcross_53 rfl (by decide) (fun c => absurd (by decide) c) (fun _ => ?_)
    refine aw_iconst (v := 1) 57 dX3_isAcross_56 rfl (by decide) ?_
    refine aw_goto 61 dX3_isAcross_57 (by decide) ?_
    exact aw_zreturn dX3_isAcross_61 rfl (by decide) (by decide) (by decide) ⟨_, rfl, H⟩
set_option maxHeartbeats 4000000 in
set_option maxRecDepth 100000 in
theorem sX3_tie_0 {w : Wd} {Q : Hp → Prop} {h : Hp} {a0 : Nat} {x1 : Int32} {x2 : Int32} (H : (hs h a0).1 = 23 ∧ hR h a0 0 ≠ 0 ∧ (hs h (hR h a0 0)).1 = 1 ∧ vp_in x1 (hs h (hR h a0 0)).2 ∧ ∀ h1, h1 = sI h (hR h a0 0) x1.toNatClampNeg x2 → hR h a0 1 ≠ 0 ∧ (hs h (hR h a0 1)).1 = 1 ∧ vp_in x2 (hs h (hR h a0 1)).2 ∧ ∀ h2, h2 = sI h1 (hR h a0 1) x2.toNatClampNeg x1 → ∀ h3, h3 = sI h2 a0 2 ((hI h2 a0 2) + 1) → Q h3) : AW w mX3_tie 0 0 (rV Q) 0 0 0 [some (.ref a0), some (.int x1), some (.int x2)] [] h := by
  refine aw_aload_n 1 dX3_tie_0 rfl rfl ?_
  obtain ⟨g1, H⟩ := H
  obtain ⟨g2, H⟩ := H
  refine aw_getR 4 dX3_tie_1 rfl fl_X3_9 ir_3_0 g1 rfl g2 ?_
  refine aw_iload_n 5 dX3_tie_4 rfl rfl ?_
  refine aw_iload_n 6 dX3_tie_5 rfl rfl ?_
  obtain ⟨g3, H⟩ := H
  obtain ⟨g4, H⟩ := H
  refine aw_iast 7 dX3_tie_6 rfl (shp g3) g4 ?_
  replace H := H _ rfl
  refine aw_aload_n 8 dX3_tie_7 rfl rfl ?_
  obtain ⟨g5, H⟩ := H
  refine aw_getR 11 dX3_tie_8 rfl fl_X3_15 ir_3_1 g1 rfl g5 ?_
  refine aw_iload_n 12 dX3_tie_11 rfl rfl ?_
  refine aw_iload_n 13 dX3_tie_12 rfl rfl ?_
  obtain ⟨g6, H⟩ := H
  obtain ⟨g7, H⟩ := H
  refine aw_iast 14 dX3_tie_13 rfl (shp g6) g7 ?_
  replace H := H _ rfl
  refine aw_aload_n 15 dX3_tie_14 rfl rfl ?_
  refine aw_dup 16 dX3_tie_15 rfl rfl ?_
  refine aw_getI 19 dX3_tie_16 rfl fl_X3_24 (by decide) g1 ?_
  refine aw_iconst (v := 1) 20 dX3_tie_19 rfl (by decide) ?_
  refine aw_iadd 21 dX3_tie_20 rfl ?_
  refine aw_putI 24 dX3_tie_21 rfl fl_X3_24 (by decide) g1 nf_3_2 ?_
  replace H := H _ rfl
  exact aw_return dX3_tie_24 rfl (by decide) (by decide) ⟨rfl, H⟩
theorem eX3_tie {w : Wd} {Q : Hp → Prop} {h : Hp} {a0 : Nat} {x1 : Int32} {x2 : Int32} (H : AW w mX3_tie 0 0 (rV Q) 0 0 0 [some (.ref a0), some (.int x1), some (.int x2)] [] h) : AC w mX3_tie 0 0 (rV Q) [.ref a0, .int x1, .int x2] h := AC.ofL (by decide) (by simp [enl, Value.category]) (by simp [leL, enl, Value.category]) H
set_option maxHeartbeats 4000000 in
set_option maxRecDepth 100000 in
theorem sX3_untie_0 {w : Wd} {Q : Int32 → Hp → Prop} {h : Hp} {a0 : Nat} {x1 : Int32} (H : (hs h a0).1 = 23 ∧ hR h a0 0 ≠ 0 ∧ (hs h (hR h a0 0)).1 = 1 ∧ vp_in x1 (hs h (hR h a0 0)).2 ∧ ((¬ (hI h (hR h a0 0) x1.toNatClampNeg) = (-1) → hR h a0 1 ≠ 0 ∧ (hs h (hR h a0 1)).1 = 1 ∧ vp_in (hI h (hR h a0 0) x1.toNatClampNeg) (hs h (hR h a0 1)).2 ∧ ∀ h1, h1 = sI h (hR h a0 1) (hI h (hR h a0 0) x1.toNatClampNeg).toNatClampNeg (-1) → ∀ h2, h2 = sI h1 (hR h a0 0) x1.toNatClampNeg (-1) → ∀ h3, h3 = sI h2 a0 2 ((hI h2 a0 2) - 1) → Q 1 h3) ∧ ((hI h (hR h a0 0) x1.toNatClampNeg) = (-1) → Q 0 h))) : AW w mX3_untie 0 0 (rI Q) 0 0 0 [some (.ref a0), some (.int x1)] [] h := by
  refine aw_aload_n 1 dX3_untie_0 rfl rfl ?_
  obtain ⟨g1, H⟩ := H
  obtain ⟨g2, H⟩ := H
  refine aw_getR 4 dX3_untie_1 rfl fl_X3_9 ir_3_0 g1 rfl g2 ?_
  refine aw_iload_n 5 dX3_untie_4 rfl rfl ?_
  obtain ⟨g3, H⟩ := H
  obtain ⟨g4, H⟩ := H
  refine aw_iald 6 dX3_untie_5 rfl (Or.inl (shp g3)) g4 ?_
  refine aw_iconst (v := (-1)) 7 dX3_untie_6 rfl (by decide) ?_
  refine aw_icmp_ne 12 10 dX3_untie_7 rfl (by decide) (fun c5 => ?_) (fun c5 => ?_)
  · replace H := H.1 c5
    refine aw_aload_n 13 dX3_untie_12 rfl rfl ?_
    obtain ⟨g6, H⟩ := H
    refine aw_getR 16 dX3_untie_13 rfl fl_X3_15 ir_3_1 g1 rfl g6 ?_
    refine aw_aload_n 17 dX3_untie_16 rfl rfl ?_
    refine aw_getR 20 dX3_untie_17 rfl fl_X3_9 ir_3_0 g1 rfl g2 ?_
    refine aw_iload_n 21 dX3_untie_20 rfl rfl ?_
    refine aw_iald 22 dX3_untie_21 rfl (Or.inl (shp g3)) g4 ?_
    refine aw_iconst (v := (-1)) 23 dX3_untie_22 rfl (by decide) ?_
    obtain ⟨g7, H⟩ := H
    obtain ⟨g8, H⟩ := H
    refine aw_iast 24 dX3_untie_23 rfl (shp g7) g8 ?_
    replace H := H _ rfl
    refine aw_aload_n 25 dX3_untie_24 rfl rfl ?_
    refine aw_getR 28 dX3_untie_25 rfl fl_X3_9 ir_3_0 g1 rfl g2 ?_
    refine aw_iload_n 29 dX3_untie_28 rfl rfl ?_
    refine aw_iconst (v := (-1)) 30 dX3_untie_29 rfl (by decide) ?_
    refine aw_iast 31 dX3_untie_30 rfl (shp g3) g4 ?_
    replace H := H _ rfl
    refine aw_aload_n 32 dX3_untie_31 rfl rfl ?_
    refine aw_dup 33 dX3_untie_32 rfl rfl ?_
    refine aw_getI 36 dX3_untie_33 rfl fl_X3_24 (by decide) g1 ?_
    refine aw_iconst (v := 1) 37 dX3_untie_36 rfl (by decide) ?_
    refine aw_isub 38 dX3_untie_37 rfl ?_
    refine aw_putI 41 dX3_untie_38 rfl fl_X3_24 (by decide) g1 nf_3_2 ?_
    replace H := H _ rfl
    refine aw_iconst (v := 1) 42 dX3_untie_41 rfl (by decide) ?_
    exact aw_zreturn dX3_untie_42 rfl (by decide) (by decide) (by decide) ⟨_, rfl, H⟩
  · replace H := H.2 c5
    refine aw_iconst (v := 0) 11 dX3_untie_10 rfl (by decide) ?_
    exact aw_zreturn dX3_untie_11 rfl (by decide) (by decide) (by decide) ⟨_, rfl, H⟩
theorem eX3_untie {w : Wd} {Q : Int32 → Hp → Prop} {h : Hp} {a0 : Nat} {x1 : Int32} (H : AW w mX3_untie 0 0 (rI Q) 0 0 0 [some (.ref a0), some (.int x1)] [] h) : AC w mX3_untie 0 0 (rI Q) [.ref a0, .int x1] h := AC.ofL (by decide) (by simp [enl, Value.category]) (by simp [leL, enl, Value.category]) H
set_option maxHeartbeats 4000000 in
set_option maxRecDepth 100000 in
theorem sX3_allow_0 {w : Wd} {Q : Int32 → Hp → Prop} {h : Hp} {a0 : Nat} {x1 : Int32} {x2 : Int32} {x3 : Int32} (H : AW w mX3_allow 0 0 (rI Q) 0 0 3 [some (.ref a0), some (.int x1), some (.int x2), some (.int x3), some (.int 0), none] [] h) : AW w mX3_allow 0 0 (rI Q) 0 0 0 [some (.ref a0), some (.int x1), some (.int x2), some (.int x3), none, none] [] h := by
  refine aw_iconst (v := 0) 1 dX3_allow_0 rfl (by decide) ?_
  refine aw_istore (loc' := [some (.ref a0), some (.int x1), some (.int x2), some (.int x3), some (.int 0), none]) 3 dX3_allow_1 rfl (by decide) rfl ?_
  exact H
theorem eX3_allow {w : Wd} {Q : Int32 → Hp → Prop} {h : Hp} {a0 : Nat} {x1 : Int32} {x2 : Int32} {x3 : Int32} (H : AW w mX3_allow 0 0 (rI Q) 0 0 0 [some (.ref a0), some (.int x1), some (.int x2), some (.int x3), none, none] [] h) : AC w mX3_allow 0 0 (rI Q) [.ref a0, .int x1, .int x2, .int x3] h := AC.ofL (by decide) (by simp [enl, Value.category]) (by simp [leL, enl, Value.category]) H
set_option maxHeartbeats 4000000 in
set_option maxRecDepth 100000 in
theorem sX3_allow_3 {w : Wd} {Q : Int32 → Hp → Prop} {h : Hp} {a0 : Nat} {x1 : Int32} {x2 : Int32} {x3 : Int32} {x4 : Int32} (H : (hs h 1).1 = 4 ∧ vp_in x1 (hs h 1).2 ∧ (((hI h 1 x1.toNatClampNeg) ≤ x4 → AW w mX3_allow 0 0 (rI Q) 0 0 54 [some (.ref a0), some (.int x1), some (.int x2), some (.int x3), some (.int 0), none] [] h) ∧ (¬ (hI h 1 x1.toNatClampNeg) ≤ x4 → (hs h a0).1 = 23 ∧ hR h a0 0 ≠ 0 ∧ (hs h (hR h a0 0)).1 = 1 ∧ vp_in (x2 + x4) (hs h (hR h a0 0)).2 ∧ (((hI h (hR h a0 0) (x2 + x4).toNatClampNeg) = (-1) → AW w mX3_allow 0 0 (rI Q) 0 0 3 [some (.ref a0), some (.int x1), some (.int x2), some (.int x3), some (.int (x4 + 1)), none] [] h) ∧ (¬ (hI h (hR h a0 0) (x2 + x4).toNatClampNeg) = (-1) → AC w mX3_goTogether 0 0 (rI fun r1 h1 => ((¬ r1 = 0 → AW w mX3_allow 0 0 (rI Q) 0 0 3 [some (.ref a0), some (.int x1), some (.int x2), some (.int x3), some (.int (x4 + 1)), none] [] h1) ∧ (r1 = 0 → Q 0 h1))) [.int x1, .int x4, .int ((hI h (hR h a0 0) (x2 + x4).toNatClampNeg) - x3)] h))))) : AW w mX3_allow 0 0 (rI Q) 0 0 3 [some (.ref a0), some (.int x1), some (.int x2), some (.int x3), some (.int x4), none] [] h := by
  refine aw_iload 5 dX3_allow_3 rfl rfl ?_
  refine aw_getsN (j := 1) 8 dX3_allow_5 rfl (by decide) gs_X3_32 ?_
  refine aw_iload_n 9 dX3_allow_8 rfl rfl ?_
  obtain ⟨g1, H⟩ := H
  obtain ⟨g2, H⟩ := H
  refine aw_iald 10 dX3_allow_9 rfl (Or.inr (shp g1)) g2 ?_
  refine aw_icmp_ge 51 13 dX3_allow_10 rfl (by decide) (fun c3 => ?_) (fun c3 => ?_)
  · replace H := H.1 c3
    refine aw_iconst (v := 0) 52 dX3_allow_51 rfl (by decide) ?_
    refine aw_istore (loc' := [some (.ref a0), some (.int x1), some (.int x2), some (.int x3), some (.int 0), none]) 54 dX3_allow_52 rfl (by decide) rfl ?_
    exact H
  · replace H := H.2 c3
    refine aw_aload_n 14 dX3_allow_13 rfl rfl ?_
    obtain ⟨g4, H⟩ := H
    obtain ⟨g5, H⟩ := H
    refine aw_getR 17 dX3_allow_14 rfl fl_X3_9 ir_3_0 g4 rfl g5 ?_
    refine aw_iload_n 18 dX3_allow_17 rfl rfl ?_
    refine aw_iload 20 dX3_allow_18 rfl rfl ?_
    refine aw_iadd 21 dX3_allow_20 rfl ?_
    obtain ⟨g6, H⟩ := H
    obtain ⟨g7, H⟩ := H
    refine aw_iald 22 dX3_allow_21 rfl (Or.inl (shp g6)) g7 ?_
    refine aw_istore (loc' := [some (.ref a0), some (.int x1), some (.int x2), some (.int x3), some (.int x4), some (.int (hI h (hR h a0 0) (x2 + x4).toNatClampNeg))]) 24 dX3_allow_22 rfl (by decide) rfl ?_
    refine aw_iload 26 dX3_allow_24 rfl rfl ?_
    refine aw_iconst (v := (-1)) 27 dX3_allow_26 rfl (by decide) ?_
    refine aw_icmp_eq 45 30 dX3_allow_27 rfl (by decide) (fun c8 => ?_) (fun c8 => ?_)
    · replace H := H.1 c8
      refine aw_iinc (y := 1) (loc' := [some (.ref a0), some (.int x1), some (.int x2), some (.int x3), some (.int (x4 + 1)), some (.int (hI h (hR h a0 0) (x2 + x4).toNatClampNeg))]) 48 dX3_allow_45 rfl (by decide) rfl (by decide) rfl ?_
      refine aw_goto 3 dX3_allow_48 (by decide) ?_
      exact aw_fgt (by simp [leL]) H
    · replace H := H.2 c8
      refine aw_iload_n 31 dX3_allow_30 rfl rfl ?_
      refine aw_iload 33 dX3_allow_31 rfl rfl ?_
      refine aw_iload 35 dX3_allow_33 rfl rfl ?_
      refine aw_iload_n 36 dX3_allow_35 rfl rfl ?_
      refine aw_isub 37 dX3_allow_36 rfl ?_
      refine aw_callS (stk := []) [.int x1, .int x4, .int ((hI h (hR h a0 0) (x2 + x4).toNatClampNeg) - x3)] 40 dX3_allow_37 rfl mv_X3_35 ⟨by decide, by decide⟩ rfl rfl (by simp [Value.category]) (by decide) H ?_
      rintro _ h1 ⟨r1, rfl, H⟩
      refine aw_if_ne 45 43 dX3_allow_40 rfl (by decide) (fun c9 => ?_) (fun c9 => ?_)
      · replace H := H.1 c9
        refine aw_iinc (y := 1) (loc' := [some (.ref a0), some (.int x1), some (.int x2), some (.int x3), some (.int (x4 + 1)), some (.int (hI h (hR h a0 0) (x2 + x4).toNatClampNeg))]) 48 dX3_allow_45 rfl (by decide) rfl (by decide) rfl ?_
        refine aw_goto 3 dX3_allow_48 (by decide) ?_
        exact aw_fgt (by simp [leL]) H
      · replace H := H.2 c9
        refine aw_iconst (v := 0) 44 dX3_allow_43 rfl (by decide) ?_
        exact aw_zreturn dX3_allow_44 rfl (by decide) (by decide) (by decide) ⟨_, rfl, H⟩
set_option maxHeartbeats 4000000 in
set_option maxRecDepth 100000 in
theorem sX3_allow_54 {w : Wd} {Q : Int32 → Hp → Prop} {h : Hp} {a0 : Nat} {x1 : Int32} {x2 : Int32} {x3 : Int32} {x4 : Int32} (H : (hs h 2).1 = 4 ∧ vp_in x1 (hs h 2).2 ∧ (((hI h 2 x1.toNatClampNeg) ≤ x4 → Q 1 h) ∧ (¬ (hI h 2 x1.toNatClampNeg) ≤ x4 → (hs h a0).1 = 23 ∧ hR h a0 1 ≠ 0 ∧ (hs h (hR h a0 1)).1 = 1 ∧ vp_in (x3 + x4) (hs h (hR h a0 1)).2 ∧ (((hI h (hR h a0 1) (x3 + x4).toNatClampNeg) = (-1) → AW w mX3_allow 0 0 (rI Q) 0 0 54 [some (.ref a0), some (.int x1), some (.int x2), some (.int x3), some (.int (x4 + 1)), none] [] h) ∧ (¬ (hI h (hR h a0 1) (x3 + x4).toNatClampNeg) = (-1) → AC w mX3_goTogether 0 0 (rI fun r1 h1 => ((¬ r1 = 0 → AW w mX3_allow 0 0 (rI Q) 0 0 54 [some (.ref a0), some (.int x1), some (.int x2), some (.int x3), some (.int (x4 + 1)), none] [] h1) ∧ (r1 = 0 → Q 0 h1))) [.int x1, .int ((hI h (hR h a0 1) (x3 + x4).toNatClampNeg) - x2), .int x4] h))))) : AW w mX3_allow 0 0 (rI Q) 0 0 54 [some (.ref a0), some (.int x1), some (.int x2), some (.int x3), some (.int x4), none] [] h := by
  refine aw_iload 56 dX3_allow_54 rfl rfl ?_
  refine aw_getsN (j := 2) 59 dX3_allow_56 rfl (by decide) gs_X3_39 ?_
  refine aw_iload_n 60 dX3_allow_59 rfl rfl ?_
  obtain ⟨g1, H⟩ := H
  obtain ⟨g2, H⟩ := H
  refine aw_iald 61 dX3_allow_60 rfl (Or.inr (shp g1)) g2 ?_
  refine aw_icmp_ge 102 64 dX3_allow_61 rfl (by decide) (fun c3 => ?_) (fun c3 => ?_)
  · replace H := H.1 c3
    refine aw_iconst (v := 1) 103 dX3_allow_102 rfl (by decide) ?_
    exact aw_zreturn dX3_allow_103 rfl (by decide) (by decide) (by decide) ⟨_, rfl, H⟩
  · replace H := H.2 c3
    refine aw_aload_n 65 dX3_allow_64 rfl rfl ?_
    obtain ⟨g4, H⟩ := H
    obtain ⟨g5, H⟩ := H
    refine aw_getR 68 dX3_allow_65 rfl fl_X3_15 ir_3_1 g4 rfl g5 ?_
    refine aw_iload_n 69 dX3_allow_68 rfl rfl ?_
    refine aw_iload 71 dX3_allow_69 rfl rfl ?_
    refine aw_iadd 72 dX3_allow_71 rfl ?_
    obtain ⟨g6, H⟩ := H
    obtain ⟨g7, H⟩ := H
    refine aw_iald 73 dX3_allow_72 rfl (Or.inl (shp g6)) g7 ?_
    refine aw_istore (loc' := [some (.ref a0), some (.int x1), some (.int x2), some (.int x3), some (.int x4), some (.int (hI h (hR h a0 1) (x3 + x4).toNatClampNeg))]) 75 dX3_allow_73 rfl (by decide) rfl ?_
    refine aw_iload 77 dX3_allow_75 rfl rfl ?_
    refine aw_iconst (v := (-1)) 78 dX3_allow_77 rfl (by decide) ?_
    refine aw_icmp_eq 96 81 dX3_allow_78 rfl (by decide) (fun c8 => ?_) (fun c8 => ?_)
    · replace H := H.1 c8
      refine aw_iinc (y := 1) (loc' := [some (.ref a0), some (.int x1), some (.int x2), some (.int x3), some (.int (x4 + 1)), some (.int (hI h (hR h a0 1) (x3 + x4).toNatClampNeg))]) 99 dX3_allow_96 rfl (by decide) rfl (by decide) rfl ?_
      refine aw_goto 54 dX3_allow_99 (by decide) ?_
      exact aw_fgt (by simp [leL]) H
    · replace H := H.2 c8
      refine aw_iload_n 82 dX3_allow_81 rfl rfl ?_
      refine aw_iload 84 dX3_allow_82 rfl rfl ?_
      refine aw_iload_n 85 dX3_allow_84 rfl rfl ?_
      refine aw_isub 86 dX3_allow_85 rfl ?_
      refine aw_iload 88 dX3_allow_86 rfl rfl ?_
      refine aw_callS (stk := []) [.int x1, .int ((hI h (hR h a0 1) (x3 + x4).toNatClampNeg) - x2), .int x4] 91 dX3_allow_88 rfl mv_X3_35 ⟨by decide, by decide⟩ rfl rfl (by simp [Value.category]) (by decide) H ?_
      rintro _ h1 ⟨r1, rfl, H⟩
      refine aw_if_ne 96 94 dX3_allow_91 rfl (by decide) (fun c9 => ?_) (fun c9 => ?_)
      · replace H := H.1 c9
        refine aw_iinc (y := 1) (loc' := [some (.ref a0), some (.int x1), some (.int x2), some (.int x3), some (.int (x4 + 1)), some (.int (hI h (hR h a0 1) (x3 + x4).toNatClampNeg))]) 99 dX3_allow_96 rfl (by decide) rfl (by decide) rfl ?_
        refine aw_goto 54 dX3_allow_99 (by decide) ?_
        exact aw_fgt (by simp [leL]) H
      · replace H := H.2 c9
        refine aw_iconst (v := 0) 95 dX3_allow_94 rfl (by decide) ?_
        exact aw_zreturn dX3_allow_95 rfl (by decide) (by decide) (by decide) ⟨_, rfl, H⟩
