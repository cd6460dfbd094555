set_option maxHeartbeats 4000000 in
set_option maxRecDepth 100000 in
theorem sX7_countFriends_0 {w : Wd} {Q : Int32 → Hp → Prop} {h : Hp} {a0 : Nat} {x1 : Int32} {l2 : Int64} (H : AW w mX7_countFriends 0 0 (rI Q) 0 0 6 [some (.ref a0), some (.int x1), some (.long l2), none, some (.int 0), some (.int 0)] [] h) : AW w mX7_countFriends 0 0 (rI Q) 0 0 0 [some (.ref a0), some (.int x1), some (.long l2), none, none, none] [] h := by
  refine aw_iconst (v := 0) 1 dX7_countFriends_0 rfl (by decide) ?_
  refine aw_istore (loc' := [some (.ref a0), some (.int x1), some (.long l2), none, some (.int 0), none]) 3 dX7_countFriends_1 rfl (by decide) rfl ?_
  refine aw_iconst (v := 0) 4 dX7_countFriends_3 rfl (by decide) ?_
  refine aw_istore (loc' := [some (.ref a0), some (.int x1), some (.long l2), none, some (.int 0), some (.int 0)]) 6 dX7_countFriends_4 rfl (by decide) rfl ?_
  exact H
theorem eX7_countFriends {w : Wd} {Q : Int32 → Hp → Prop} {h : Hp} {a0 : Nat} {x1 : Int32} {l2 : Int64} (H : AW w mX7_countFriends 0 0 (rI Q) 0 0 0 [some (.ref a0), some (.int x1), some (.long l2), none, none, none] [] h) : AC w mX7_countFriends 0 0 (rI Q) [.ref a0, .int x1, .long l2] h := AC.ofL (by decide) (by simp [enl, Value.category]) (by simp [leL, enl, Value.category]) H
set_option maxHeartbeats 4000000 in
set_option maxRecDepth 100000 in
theorem sX7_countFriends_6 {w : Wd} {Q : Int32 → Hp → Prop} {h : Hp} {a0 : Nat} {x1 : Int32} {l2 : Int64} {x4 : Int32} {x5 : Int32} (H : (hs h a0).1 = 27 ∧ hR h a0 0 ≠ 0 ∧ (hs h (hR h a0 0)).1 = 9 ∧ vp_in 0 (hs h (hR h a0 0)).2 ∧ hR h (hR h a0 0) (0 : Int32).toNatClampNeg ≠ 0 ∧ (hs h (hR h (hR h a0 0) (0 : Int32).toNatClampNeg)).1 = 20 ∧ hR h (hR h (hR h a0 0) (0 : Int32).toNatClampNeg) 2 ≠ 0 ∧ (hs h (hR h (hR h (hR h a0 0) (0 : Int32).toNatClampNeg) 2)).1 = 1 ∧ vp_in x1 (hs h (hR h (hR h (hR h a0 0) (0 : Int32).toNatClampNeg) 2)).2 ∧ (((hI h (hR h (hR h (hR h a0 0) (0 : Int32).toNatClampNeg) 2) x1.toNatClampNeg) ≤ x5 → Q x4 h) ∧ (¬ (hI h (hR h (hR h (hR h a0 0) (0 : Int32).toNatClampNeg) 2) x1.toNatClampNeg) ≤ x5 → hR h a0 6 ≠ 0 ∧ hR h (hR h (hR h a0 0) (0 : Int32).toNatClampNeg) 1 ≠ 0 ∧ (hs h (hR h (hR h (hR h a0 0) (0 : Int32).toNatClampNeg) 1)).1 = 6 ∧ vp_in x1 (hs h (hR h (hR h (hR h a0 0) (0 : Int32).toNatClampNeg) 1)).2 ∧ hR h (hR h (hR h (hR h a0 0) (0 : Int32).toNatClampNeg) 1) x1.toNatClampNeg ≠ 0 ∧ (hs h (hR h (hR h (hR h (hR h a0 0) (0 : Int32).toNatClampNeg) 1) x1.toNatClampNeg)).1 = 1 ∧ vp_in x5 (hs h (hR h (hR h (hR h (hR h a0 0) (0 : Int32).toNatClampNeg) 1) x1.toNatClampNeg)).2 ∧ (hs h (hR h a0 6)).1 = 5 ∧ vp_in (hI h (hR h (hR h (hR h (hR h a0 0) (0 : Int32).toNatClampNeg) 1) x1.toNatClampNeg) x5.toNatClampNeg) (hs h (hR h a0 6)).2 ∧ (((lg_cmp ((hL h (hR h a0 6) (hI h (hR h (hR h (hR h (hR h a0 0) (0 : Int32).toNatClampNeg) 1) x1.toNatClampNeg) x5.toNatClampNeg).toNatClampNeg) &&& l2) 0) = 0 → AW w mX7_countFriends 0 0 (rI Q) 0 0 6 [some (.ref a0), some (.int x1), some (.long l2), none, some (.int x4), some (.int (x5 + 1))] [] h) ∧ (¬ (lg_cmp ((hL h (hR h a0 6) (hI h (hR h (hR h (hR h (hR h a0 0) (0 : Int32).toNatClampNeg) 1) x1.toNatClampNeg) x5.toNatClampNeg).toNatClampNeg) &&& l2) 0) = 0 → AW w mX7_countFriends 0 0 (rI Q) 0 0 6 [some (.ref a0), some (.int x1), some (.long l2), none, some (.int (x4 + 1)), some (.int (x5 + 1))] [] h))))) : AW w mX7_countFriends 0 0 (rI Q) 0 0 6 [some (.ref a0), some (.int x1), some (.long l2), none, some (.int x4), some (.int x5)] [] h := by
  refine aw_iload 8 dX7_countFriends_6 rfl rfl ?_
  refine aw_aload_n 9 dX7_countFriends_8 rfl rfl ?_
  obtain ⟨g1, H⟩ := H
  obtain ⟨g2, H⟩ := H
  refine aw_getR 12 dX7_countFriends_9 rfl fl_X7_46 ir_7_0 g1 rfl g2 ?_
  refine aw_iconst (v := 0) 13 dX7_countFriends_12 rfl (by decide) ?_
  obtain ⟨g3, H⟩ := H
  obtain ⟨g4, H⟩ := H
  obtain ⟨g5, H⟩ := H
  refine aw_aald 14 dX7_countFriends_13 rfl (shp g3) (by decide) g4 rfl g5 ?_
  obtain ⟨g6, H⟩ := H
  obtain ⟨g7, H⟩ := H
  refine aw_getR 17 dX7_countFriends_14 rfl fl_X7_158 ir_0_2 g6 rfl g7 ?_
  refine aw_iload_n 18 dX7_countFriends_17 rfl rfl ?_
  obtain ⟨g8, H⟩ := H
  obtain ⟨g9, H⟩ := H
  refine aw_iald 19 dX7_countFriends_18 rfl (Or.inl (shp g8)) g9 ?_
  refine aw_icmp_ge 57 22 dX7_countFriends_19 rfl (by decide) (fun c10 => ?_) (fun c10 => ?_)
  · replace H := H.1 c10
    refine aw_iload 59 dX7_countFriends_57 rfl rfl ?_
    exact aw_ireturn dX7_countFriends_59 rfl (by decide) (by decide) ⟨_, rfl, H⟩
  · replace H := H.2 c10
    refine aw_aload_n 23 dX7_countFriends_22 rfl rfl ?_
    obtain ⟨g11, H⟩ := H
    refine aw_getR 26 dX7_countFriends_23 rfl fl_X7_18 ir_7_6 g1 rfl g11 ?_
    refine aw_aload_n 27 dX7_countFriends_26 rfl rfl ?_
    refine aw_getR 30 dX7_countFriends_27 rfl fl_X7_46 ir_7_0 g1 rfl g2 ?_
    refine aw_iconst (v := 0) 31 dX7_countFriends_30 rfl (by decide) ?_
    refine aw_aald 32 dX7_countFriends_31 rfl (shp g3) (by decide) g4 rfl g5 ?_
    obtain ⟨g12, H⟩ := H
    refine aw_getR 35 dX7_countFriends_32 rfl fl_X7_161 ir_0_1 g6 rfl g12 ?_
    refine aw_iload_n 36 dX7_countFriends_35 rfl rfl ?_
    obtain ⟨g13, H⟩ := H
    obtain ⟨g14, H⟩ := H
    obtain ⟨g15, H⟩ := H
    refine aw_aald 37 dX7_countFriends_36 rfl (shp g13) (by decide) g14 rfl g15 ?_
    refine aw_iload 39 dX7_countFriends_37 rfl rfl ?_
    obtain ⟨g16, H⟩ := H
    obtain ⟨g17, H⟩ := H
    refine aw_iald 40 dX7_countFriends_39 rfl (Or.inl (shp g16)) g17 ?_
    obtain ⟨g18, H⟩ := H
    obtain ⟨g19, H⟩ := H
    refine aw_lald 41 dX7_countFriends_40 rfl (shp g18) g19 ?_
    refine aw_lload_n 42 dX7_countFriends_41 rfl rfl ?_
    refine aw_land 43 dX7_countFriends_42 rfl ?_
    refine aw_lconst (v := 0) 44 dX7_countFriends_43 rfl (by decide) ?_
    refine aw_lcmp 45 dX7_countFriends_44 rfl ?_
    refine aw_if_eq 51 48 dX7_countFriends_45 rfl (by decide) (fun c20 => ?_) (fun c20 => ?_)
    · replace H := H.1 c20
      refine aw_iinc (y := 1) (loc' := [some (.ref a0), some (.int x1), some (.long l2), none, some (.int x4), some (.int (x5 + 1))]) 54 dX7_countFriends_51 rfl (by decide) rfl (by decide) rfl ?_
      refine aw_goto 6 dX7_countFriends_54 (by decide) ?_
      exact H
    · replace H := H.2 c20
      refine aw_iinc (y := 1) (loc' := [some (.ref a0), some (.int x1), some (.long l2), none, some (.int (x4 + 1)), some (.int x5)]) 51 dX7_countFriends_48 rfl (by decide) rfl (by decide) rfl ?_
      refine aw_iinc (y := 1) (loc' := [some (.ref a0), some (.int x1), some (.long l2), none, some (.int (x4 + 1)), some (.int (x5 + 1))]) 54 dX7_countFriends_51 rfl (by decide) rfl (by decide) rfl ?_
      refine aw_goto 6 dX7_countFriends_54 (by decide) ?_
      exact H
set_option maxHeartbeats 4000000 in
set_option maxRecDepth 100000 in
theorem sX7_fillLeast_0 {w : Wd} {Q : Hp → Prop} {h : Hp} {a0 : Nat} {a1 : Nat} {x2 : Int32} (H : (hs h a0).1 = 27 ∧ hR h a0 0 ≠ 0 ∧ (hs h (hR h a0 0)).1 = 9 ∧ vp_in 0 (hs h (hR h a0 0)).2 ∧ hR h (hR h a0 0) (0 : Int32).toNatClampNeg ≠ 0 ∧ (hs h (hR h (hR h a0 0) (0 : Int32).toNatClampNeg)).1 = 20 ∧ vp_in 1 (hs h (hR h a0 0)).2 ∧ hR h (hR h a0 0) (1 : Int32).toNatClampNeg ≠ 0 ∧ (hs h (hR h (hR h a0 0) (1 : Int32).toNatClampNeg)).1 = 20 ∧ AW w mX7_fillLeast 0 0 (rV Q) 0 0 24 [some (.ref a0), some (.ref a1), some (.int x2), some (.int (hI h (hR h (hR h a0 0) (0 : Int32).toNatClampNeg) 5)), some (.int (hI h (hR h (hR h a0 0) (1 : Int32).toNatClampNeg) 5)), some (.int (hI h (hR h (hR h a0 0) (0 : Int32).toNatClampNeg) 5)), none, none, none] [] h) : AW w mX7_fillLeast 0 0 (rV Q) 0 0 0 [some (.ref a0), some (.ref a1), some (.int x2), none, none, none, none, none, none] [] h := by
  refine aw_aload_n 1 dX7_fillLeast_0 rfl rfl ?_
  obtain ⟨g1, H⟩ := H
  obtain ⟨g2, H⟩ := H
  refine aw_getR 4 dX7_fillLeast_1 rfl fl_X7_46 ir_7_0 g1 rfl g2 ?_
  refine aw_iconst (v := 0) 5 dX7_fillLeast_4 rfl (by decide) ?_
  obtain ⟨g3, H⟩ := H
  obtain ⟨g4, H⟩ := H
  obtain ⟨g5, H⟩ := H
  refine aw_aald 6 dX7_fillLeast_5 rfl (shp g3) (by decide) g4 rfl g5 ?_
  obtain ⟨g6, H⟩ := H
  refine aw_getI 9 dX7_fillLeast_6 rfl fl_X7_80 (by decide) g6 ?_
  refine aw_istore_n (loc' := [some (.ref a0), some (.ref a1), some (.int x2), some (.int (hI h (hR h (hR h a0 0) (0 : Int32).toNatClampNeg) 5)), none, none, none, none, none]) 10 dX7_fillLeast_9 rfl (by decide) rfl ?_
  refine aw_aload_n 11 dX7_fillLeast_10 rfl rfl ?_
  refine aw_getR 14 dX7_fillLeast_11 rfl fl_X7_46 ir_7_0 g1 rfl g2 ?_
  refine aw_iconst (v := 1) 15 dX7_fillLeast_14 rfl (by decide) ?_
  obtain ⟨g7, H⟩ := H
  obtain ⟨g8, H⟩ := H
  refine aw_aald 16 dX7_fillLeast_15 rfl (shp g3) (by decide) g7 rfl g8 ?_
  obtain ⟨g9, H⟩ := H
  refine aw_getI 19 dX7_fillLeast_16 rfl fl_X7_80 (by decide) g9 ?_
  refine aw_istore (loc' := [some (.ref a0), some (.ref a1), some (.int x2), some (.int (hI h (hR h (hR h a0 0) (0 : Int32).toNatClampNeg) 5)), some (.int (hI h (hR h (hR h a0 0) (1 : Int32).toNatClampNeg) 5)), none, none, none, none]) 21 dX7_fillLeast_19 rfl (by decide) rfl ?_
  refine aw_iload_n 22 dX7_fillLeast_21 rfl rfl ?_
  refine aw_istore (loc' := [some (.ref a0), some (.ref a1), some (.int x2), some (.int (hI h (hR h (hR h a0 0) (0 : Int32).toNatClampNeg) 5)), some (.int (hI h (hR h (hR h a0 0) (1 : Int32).toNatClampNeg) 5)), some (.int (hI h (hR h (hR h a0 0) (0 : Int32).toNatClampNeg) 5)), none, none, none]) 24 dX7_fillLeast_22 rfl (by decide) rfl ?_
  exact H
theorem eX7_fillLeast {w : Wd} {Q : Hp → Prop} {h : Hp} {a0 : Nat} {a1 : Nat} {x2 : Int32} (H : AW w mX7_fillLeast 0 0 (rV Q) 0 0 0 [some (.ref a0), some (.ref a1), some (.int x2), none, none, none, none, none, none] [] h) : AC w mX7_fillLeast 0 0 (rV Q) [.ref a0, .ref a1, .int x2] h := AC.ofL (by decide) (by simp [enl, Value.category]) (by simp [leL, enl, Value.category]) H
set_option maxHeartbeats 4000000 in
set_option maxRecDepth 100000 in
theorem sX7_fillLeast_24 {w : Wd} {Q : Hp → Prop} {h : Hp} {a0 : Nat} {a1 : Nat} {x2 : Int32} {x3 : Int32} {x4 : Int32} {x5 : Int32} (H : ((x5 < 0 → Q h) ∧ (¬ x5 < 0 → AW w mX7_fillLeast 0 0 (rV Q) 0 0 33 [some (.ref a0), some (.ref a1), some (.int x2), some (.int x3), some (.int x4), some (.int x5), some (.int x4), none, none] [] h))) : AW w mX7_fillLeast 0 0 (rV Q) 0 0 24 [some (.ref a0), some (.ref a1), some (.int x2), some (.int x3), some (.int x4), some (.int x5), none, none, none] [] h := by
  refine aw_iload 26 dX7_fillLeast_24 rfl rfl ?_
  refine aw_if_lt 129 29 dX7_fillLeast_26 rfl (by decide) (fun c1 => ?_) (fun c1 => ?_)
  · replace H := H.1 c1
    exact aw_return dX7_fillLeast_129 rfl (by decide) (by decide) ⟨rfl, H⟩
  · replace H := H.2 c1
    refine aw_iload 31 dX7_fillLeast_29 rfl rfl ?_
    refine aw_istore (loc' := [some (.ref a0), some (.ref a1), some (.int x2), some (.int x3), some (.int x4), some (.int x5), some (.int x4), none, none]) 33 dX7_fillLeast_31 rfl (by decide) rfl ?_
    exact H
set_option maxHeartbeats 4000000 in
set_option maxRecDepth 100000 in
theorem sX7_fillLeast_33 {w : Wd} {Q : Hp → Prop} {h : Hp} {a0 : Nat} {a1 : Nat} {x2 : Int32} {x3 : Int32} {x4 : Int32} {x5 : Int32} {x6 : Int32} (H : ((x6 < 0 → AW w mX7_fillLeast 0 0 (rV Q) 0 0 24 [some (.ref a0), some (.ref a1), some (.int x2), some (.int x3), some (.int x4), some (.int (x5 + (-1))), none, none, none] [] h) ∧ (¬ x6 < 0 → ((¬ x5 = x3 → AW w mX7_fillLeast 0 0 (rV Q) 0 0 62 [some (.ref a0), some (.ref a1), some (.int x2), some (.int x3), some (.int x4), some (.int x5), some (.int x6), some (.int 1000000000), some (.int 0)] [] h) ∧ (x5 = x3 → ((¬ x6 = x4 → AW w mX7_fillLeast 0 0 (rV Q) 0 0 62 [some (.ref a0), some (.ref a1), some (.int x2), some (.int x3), some (.int x4), some (.int x5), some (.int x6), some (.int 1000000000), some (.int 0)] [] h) ∧ (x6 = x4 → AW w mX7_fillLeast 0 0 (rV Q) 0 0 62 [some (.ref a0), some (.ref a1), some (.int x2), some (.int x3), some (.int x4), some (.int x5), some (.int x6), some (.int 0), some (.int 0)] [] h))))))) : AW w mX7_fillLeast 0 0 (rV Q) 0 0 33 [some (.ref a0), some (.ref a1), some (.int x2), some (.int x3), some (.int x4), some (.int x5), some (.int x6), none, none] [] h := by
  refine aw_iload 35 dX7_fillLeast_33 rfl rfl ?_
  refine aw_if_lt 123 38 dX7_fillLeast_35 rfl (by decide) (fun c1 => ?_) (fun c1 => ?_)
  · replace H := H.1 c1
    refine aw_iinc (y := (-1)) (loc' := [some (.ref a0), some (.ref a1), some (.int x2), some (.int x3), some (.int x4), some (.int (x5 + (-1))), some (.int x6), none, none]) 126 dX7_fillLeast_123 rfl (by decide) rfl (by decide) rfl ?_
    refine aw_goto 24 dX7_fillLeast_126 (by decide) ?_
    exact aw_fgt (by simp [leL]) H
  · replace H := H.2 c1
    refine aw_iload 40 dX7_fillLeast_38 rfl rfl ?_
    refine aw_iload_n 41 dX7_fillLeast_40 rfl rfl ?_
    refine aw_icmp_ne 55 44 dX7_fillLeast_41 rfl (by decide) (fun c2 => ?_) (fun c2 => ?_)
    · replace H := H.1 c2
      refine aw_ldc 57 dX7_fillLeast_55 rfl kc_X7_102 ?_
      refine aw_istore (loc' := [some (.ref a0), some (.ref a1), some (.int x2), some (.int x3), some (.int x4), some (.int x5), some (.int x6), some (.int 1000000000), none]) 59 dX7_fillLeast_57 rfl (by decide) rfl ?_
      refine aw_iconst (v := 0) 60 dX7_fillLeast_59 rfl (by decide) ?_
      refine aw_istore (loc' := [some (.ref a0), some (.ref a1), some (.int x2), some (.int x3), some (.int x4), some (.int x5), some (.int x6), some (.int 1000000000), some (.int 0)]) 62 dX7_fillLeast_60 rfl (by decide) rfl ?_
      exact H
    · replace H := H.2 c2
      refine aw_iload 46 dX7_fillLeast_44 rfl rfl ?_
      refine aw_iload 48 dX7_fillLeast_46 rfl rfl ?_
      refine aw_icmp_ne 55 51 dX7_fillLeast_48 rfl (by decide) (fun c3 => ?_) (fun c3 => ?_)
      · replace H := H.1 c3
        refine aw_ldc 57 dX7_fillLeast_55 rfl kc_X7_102 ?_
        refine aw_istore (loc' := [some (.ref a0), some (.ref a1), some (.int x2), some (.int x3), some (.int x4), some (.int x5), some (.int x6), some (.int 1000000000), none]) 59 dX7_fillLeast_57 rfl (by decide) rfl ?_
        refine aw_iconst (v := 0) 60 dX7_fillLeast_59 rfl (by decide) ?_
        refine aw_istore (loc' := [some (.ref a0), some (.ref a1), some (.int x2), some (.int x3), some (.int x4), some (.int x5), some (.int x6), some (.int 1000000000), some (.int 0)]) 62 dX7_fillLeast_60 rfl (by decide) rfl ?_
        exact H
      · replace H := H.2 c3
        refine aw_iconst (v := 0) 52 dX7_fillLeast_51 rfl (by decide) ?_
        refine aw_goto 57 dX7_fillLeast_52 (by decide) ?_
        refine aw_istore (loc' := [some (.ref a0), some (.ref a1), some (.int x2), some (.int x3), some (.int x4), some (.int x5), some (.int x6), some (.int 0), none]) 59 dX7_fillLeast_57 rfl (by decide) rfl ?_
        refine aw_iconst (v := 0) 60 dX7_fillLeast_59 rfl (by decide) ?_
        refine aw_istore (loc' := [some (.ref a0), some (.ref a1), some (.int x2), some (.int x3), some (.int x4), some (.int x5), some (.int x6), some (.int 0), some (.int 0)]) 62 dX7_fillLeast_60 rfl (by decide) rfl ?_
        exact H
set_option maxHeartbeats 4000000 in
set_option maxRecDepth 100000 in
theorem sX7_fillLeast_62 {w : Wd} {Q : Hp → Prop} {h : Hp} {a0 : Nat} {a1 : Nat} {x2 : Int32} {x3 : Int32} {x4 : Int32} {x5 : Int32} {x6 : Int32} {x7 : Int32} {x8 : Int32} (H : ((7 ≤ x8 → AC w mX7_placeOf 0 0 (rI fun r1 h1 => (hs h1 a1).1 = 1 ∧ vp_in r1 (hs h1 a1).2 ∧ ∀ h2, h2 = sI h1 a1 r1.toNatClampNeg x7 → AW w mX7_fillLeast 0 0 (rV Q) 0 0 33 [some (.ref a0), some (.ref a1), some (.int x2), some (.int x3), some (.int x4), some (.int x5), some (.int (x6 + (-1))), none, none] [] h2) [.int x5, .int x6] h) ∧ (¬ 7 ≤ x8 → AC w mX7_costIndex 0 0 (rI fun r2 h3 => ((r2 = x2 → AW w mX7_fillLeast 0 0 (rV Q) 0 0 62 [some (.ref a0), some (.ref a1), some (.int x2), some (.int x3), some (.int x4), some (.int x5), some (.int x6), some (.int x7), some (.int (x8 + 1))] [] h3) ∧ (¬ r2 = x2 → (hs h3 a0).1 = 27 ∧ AC w mX7_sumBy 0 0 (rI fun r3 h4 => AW w mX7_fillLeast 0 0 (rV Q) 0 0 62 [some (.ref a0), some (.ref a1), some (.int x2), some (.int x3), some (.int x4), some (.int x5), some (.int x6), some (.int (if r3 < x7 then r3 else x7)), some (.int (x8 + 1))] [] h4) [.ref a0, .ref a1, .int x8, .int x5, .int x6] h3))) [.int x8, .int x5, .int x6] h))) : AW w mX7_fillLeast 0 0 (rV Q) 0 0 62 [some (.ref a0), some (.ref a1), some (.int x2), some (.int x3), some (.int x4), some (.int x5), some (.int x6), some (.int x7), some (.int x8)] [] h := by
  refine aw_iload 64 dX7_fillLeast_62 rfl rfl ?_
  refine aw_bipush (v := 7) 66 dX7_fillLeast_64 rfl (by decide) ?_
  refine aw_icmp_ge 106 69 dX7_fillLeast_66 rfl (by decide) (fun c1 => ?_) (fun c1 => ?_)
  · replace H := H.1 c1
    refine aw_aload_n 107 dX7_fillLeast_106 rfl rfl ?_
    refine aw_iload 109 dX7_fillLeast_107 rfl rfl ?_
    refine aw_iload 111 dX7_fillLeast_109 rfl rfl ?_
    refine aw_callS (stk := [.ref a1]) [.int x5, .int x6] 114 dX7_fillLeast_111 rfl mv_X7_169 ⟨by decide, by decide⟩ rfl rfl (by simp [Value.category]) (by decide) H ?_
    rintro _ h1 ⟨r1, rfl, H⟩
    refine aw_iload 116 dX7_fillLeast_114 rfl rfl ?_
    obtain ⟨g2, H⟩ := H
    obtain ⟨g3, H⟩ := H
    refine aw_iast 117 dX7_fillLeast_116 rfl (shp g2) g3 ?_
    replace H := H _ rfl
    refine aw_iinc (y := (-1)) (loc' := [some (.ref a0), some (.ref a1), some (.int x2), some (.int x3), some (.int x4), some (.int x5), some (.int (x6 + (-1))), some (.int x7), some (.int x8)]) 120 dX7_fillLeast_117 rfl (by decide) rfl (by decide) rfl ?_
    refine aw_goto 33 dX7_fillLeast_120 (by decide) ?_
    exact aw_fgt (by simp [leL]) H
  · replace H := H.2 c1
    refine aw_iload 71 dX7_fillLeast_69 rfl rfl ?_
    refine aw_iload 73 dX7_fillLeast_71 rfl rfl ?_
    refine aw_iload 75 dX7_fillLeast_73 rfl rfl ?_
    refine aw_callS (stk := []) [.int x8, .int x5, .int x6] 78 dX7_fillLeast_75 rfl mv_X7_91 ⟨by decide, by decide⟩ rfl rfl (by simp [Value.category]) (by decide) H ?_
    rintro _ h3 ⟨r2, rfl, H⟩
    refine aw_iload_n 79 dX7_fillLeast_78 rfl rfl ?_
    refine aw_icmp_eq 100 82 dX7_fillLeast_79 rfl (by decide) (fun c4 => ?_) (fun c4 => ?_)
    · replace H := H.1 c4
      refine aw_iinc (y := 1) (loc' := [some (.ref a0), some (.ref a1), some (.int x2), some (.int x3), some (.int x4), some (.int x5), some (.int x6), some (.int x7), some (.int (x8 + 1))]) 103 dX7_fillLeast_100 rfl (by decide) rfl (by decide) rfl ?_
      refine aw_goto 62 dX7_fillLeast_103 (by decide) ?_
      exact H
    · replace H := H.2 c4
      refine aw_iload 84 dX7_fillLeast_82 rfl rfl ?_
      refine aw_aload_n 85 dX7_fillLeast_84 rfl rfl ?_
      refine aw_aload_n 86 dX7_fillLeast_85 rfl rfl ?_
      refine aw_iload 88 dX7_fillLeast_86 rfl rfl ?_
      refine aw_iload 90 dX7_fillLeast_88 rfl rfl ?_
      refine aw_iload 92 dX7_fillLeast_90 rfl rfl ?_
      obtain ⟨g5, H⟩ := H
      refine aw_callV (stk := [.int x7]) (ci := 7) [.ref a1, .int x8, .int x5, .int x6] 95 dX7_fillLeast_92 rfl mv_X7_165 ⟨by decide, by decide⟩ g5 (by intro r hr; cases hr; rfl) rfl rfl (by simp [Value.category]) (by decide) H ?_
      rintro _ h4 ⟨r3, rfl, H⟩
      refine aw_mmin (stk := []) 98 dX7_fillLeast_95 rfl mv_X7_129 (by decide) (by simp [Value.category]) (by decide) (by decide) ?_
      refine aw_istore (loc' := [some (.ref a0), some (.ref a1), some (.int x2), some (.int x3), some (.int x4), some (.int x5), some (.int x6), some (.int (if r3 < x7 then r3 else x7)), some (.int x8)]) 100 dX7_fillLeast_98 rfl (by decide) rfl ?_
      refine aw_iinc (y := 1) (loc' := [some (.ref a0), some (.ref a1), some (.int x2), some (.int x3), some (.int x4), some (.int x5), some (.int x6), some (.int (if r3 < x7 then r3 else x7)), some (.int (x8 + 1))]) 103 dX7_fillLeast_100 rfl (by decide) rfl (by decide) rfl ?_
      refine aw_goto 62 dX7_fillLeast_103 (by decide) ?_
      exact H
set_option maxHeartbeats 4000000 in
set_option maxRecDepth 100000 in
theorem sX7_sumBy_0 {w : Wd} {Q : Int32 → Hp → Prop} {h : Hp} {a0 : Nat} {a1 : Nat} {x2 : Int32} {x3 : Int32} {x4 : Int32} (H : (hs h a0).1 = 27 ∧ hR h a0 8 ≠ 0 ∧ AC w mX7_costIndex 0 0 (rI fun r1 h1 => (hs h1 (hR h a0 8)).1 = 1 ∧ vp_in r1 (hs h1 (hR h a0 8)).2 ∧ (((hI h1 (hR h a0 8) r1.toNatClampNeg) < 1000000000 → (hs h1 1).1 = 4 ∧ vp_in x2 (hs h1 1).2 ∧ (hs h1 2).1 = 4 ∧ vp_in x2 (hs h1 2).2 ∧ AC w mX7_placeOf 0 0 (rI fun r2 h2 => (hs h2 a1).1 = 1 ∧ vp_in r2 (hs h2 a1).2 ∧ (((hI h2 a1 r2.toNatClampNeg) < 1000000000 → Q ((hI h1 (hR h a0 8) r1.toNatClampNeg) + (hI h2 a1 r2.toNatClampNeg)) h2) ∧ (¬ (hI h2 a1 r2.toNatClampNeg) < 1000000000 → Q 1000000000 h2))) [.int (x3 + (hI h1 1 x2.toNatClampNeg)), .int (x4 + (hI h1 2 x2.toNatClampNeg))] h1) ∧ (¬ (hI h1 (hR h a0 8) r1.toNatClampNeg) < 1000000000 → Q 1000000000 h1))) [.int x2, .int x3, .int x4] h) : AW w mX7_sumBy 0 0 (rI Q) 0 0 0 [some (.ref a0), some (.ref a1), some (.int x2), some (.int x3), some (.int x4), none, none] [] h := by
  refine aw_aload_n 1 dX7_sumBy_0 rfl rfl ?_
  obtain ⟨g1, H⟩ := H
  obtain ⟨g2, H⟩ := H
  refine aw_getR 4 dX7_sumBy_1 rfl fl_X7_25 ir_7_8 g1 rfl g2 ?_
  refine aw_iload_n 5 dX7_sumBy_4 rfl rfl ?_
  refine aw_iload_n 6 dX7_sumBy_5 rfl rfl ?_
  refine aw_iload 8 dX7_sumBy_6 rfl rfl ?_
  refine aw_callS (stk := [.ref (hR h a0 8)]) [.int x2, .int x3, .int x4] 11 dX7_sumBy_8 rfl mv_X7_91 ⟨by decide, by decide⟩ rfl rfl (by simp [Value.category]) (by decide) H ?_
  rintro _ h1 ⟨r1, rfl, H⟩
  obtain ⟨g3, H⟩ := H
  obtain ⟨g4, H⟩ := H
  refine aw_iald 12 dX7_sumBy_11 rfl (Or.inl (shp g3)) g4 ?_
  refine aw_istore (loc' := [some (.ref a0), some (.ref a1), some (.int x2), some (.int x3), some (.int x4), some (.int (hI h1 (hR h a0 8) r1.toNatClampNeg)), none]) 14 dX7_sumBy_12 rfl (by decide) rfl ?_
  refine aw_iload 16 dX7_sumBy_14 rfl rfl ?_
  refine aw_ldc 18 dX7_sumBy_16 rfl kc_X7_102 ?_
  refine aw_icmp_lt 24 21 dX7_sumBy_18 rfl (by decide) (fun c5 => ?_) (fun c5 => ?_)
  · replace H := H.1 c5
    refine aw_aload_n 25 dX7_sumBy_24 rfl rfl ?_
    refine aw_iload_n 26 dX7_sumBy_25 rfl rfl ?_
    refine aw_getsN (j := 1) 29 dX7_sumBy_26 rfl (by decide) gs_X7_103 ?_
    refine aw_iload_n 30 dX7_sumBy_29 rfl rfl ?_
    obtain ⟨g6, H⟩ := H
    obtain ⟨g7, H⟩ := H
    refine aw_iald 31 dX7_sumBy_30 rfl (Or.inr (shp g6)) g7 ?_
    refine aw_iadd 32 dX7_sumBy_31 rfl ?_
    refine aw_iload 34 dX7_sumBy_32 rfl rfl ?_
    refine aw_getsN (j := 2) 37 dX7_sumBy_34 rfl (by decide) gs_X7_110 ?_
    refine aw_iload_n 38 dX7_sumBy_37 rfl rfl ?_
    obtain ⟨g8, H⟩ := H
    obtain ⟨g9, H⟩ := H
    refine aw_iald 39 dX7_sumBy_38 rfl (Or.inr (shp g8)) g9 ?_
    refine aw_iadd 40 dX7_sumBy_39 rfl ?_
    refine aw_callS (stk := [.ref a1]) [.int (x3 + (hI h1 1 x2.toNatClampNeg)), .int (x4 + (hI h1 2 x2.toNatClampNeg))] 43 dX7_sumBy_40 rfl mv_X7_169 ⟨by decide, by decide⟩ rfl rfl (by simp [Value.category]) (by decide) H ?_
    rintro _ h2 ⟨r2, rfl, H⟩
    obtain ⟨g10, H⟩ := H
    obtain ⟨g11, H⟩ := H
    refine aw_iald 44 dX7_sumBy_43 rfl (Or.inl (shp g10)) g11 ?_
    refine aw_istore (loc' := [some (.ref a0), some (.ref a1), some (.int x2), some (.int x3), some (.int x4), some (.int (hI h1 (hR h a0 8) r1.toNatClampNeg)), some (.int (hI h2 a1 r2.toNatClampNeg))]) 46 dX7_sumBy_44 rfl (by decide) rfl ?_
    refine aw_iload 48 dX7_sumBy_46 rfl rfl ?_
    refine aw_ldc 50 dX7_sumBy_48 rfl kc_X7_102 ?_
    refine aw_icmp_lt 58 53 dX7_sumBy_50 rfl (by decide) (fun c12 => ?_) (fun c12 => ?_)
    · replace H := H.1 c12
      refine aw_iload 60 dX7_sumBy_58 rfl rfl ?_
      refine aw_iload 62 dX7_sumBy_60 rfl rfl ?_
      refine aw_iadd 63 dX7_sumBy_62 rfl ?_
      exact aw_ireturn dX7_sumBy_63 rfl (by decide) (by decide) ⟨_, rfl, H⟩
    · replace H := H.2 c12
      refine aw_ldc 55 dX7_sumBy_53 rfl kc_X7_102 ?_
      refine aw_goto 63 dX7_sumBy_55 (by decide) ?_
      exact aw_ireturn dX7_sumBy_63 rfl (by decide) (by decide) ⟨_, rfl, H⟩
  · replace H := H.2 c5
    refine aw_ldc 23 dX7_sumBy_21 rfl kc_X7_102 ?_
    exact aw_ireturn dX7_sumBy_23 rfl (by decide) (by decide) ⟨_, rfl, H⟩
theorem eX7_sumBy {w : Wd} {Q : Int32 → Hp → Prop} {h : Hp} {a0 : Nat} {a1 : Nat} {x2 : Int32} {x3 : Int32} {x4 : Int32} (H : AW w mX7_sumBy 0 0 (rI Q) 0 0 0 [some (.ref a0), some (.ref a1), some (.int x2), some (.int x3), some (.int x4), none, none] [] h) : AC w mX7_sumBy 0 0 (rI Q) [.ref a0, .ref a1, .int x2, .int x3, .int x4] h := AC.ofL (by decide) (by simp [enl, Value.category]) (by simp [leL, enl, Value.category]) H
set_option maxHeartbeats 4000000 in
set_option maxRecDepth 100000 in
theorem sX7_choose_0 {w : Wd} {Q : Hp → Prop} {h : Hp} {a0 : Nat} (H : (hs h a0).1 = 27 ∧ hR h a0 9 ≠ 0 ∧ AC w mX7_fillLeast 0 0 (rV fun h1 => (hs h1 a0).1 = 27 ∧ hR h1 a0 9 ≠ 0 ∧ (hs h1 (hR h1 a0 9)).1 = 1 ∧ vp_in 0 (hs h1 (hR h1 a0 9)).2 ∧ ((1000000000 ≤ (hI h1 (hR h1 a0 9) (0 : Int32).toNatClampNeg) → ∀ h2, h2 = sI h1 a0 11 0 → ∀ h3, h3 = sI h2 a0 12 0 → (((hI h3 a0 11) = 0 → Q h3) ∧ (¬ (hI h3 a0 11) = 0 → AC w mX7_traceBest 0 0 (rV fun h4 => Q h4) [.ref a0] h3))) ∧ (¬ 1000000000 ≤ (hI h1 (hR h1 a0 9) (0 : Int32).toNatClampNeg) → ∀ h5, h5 = sI h1 a0 11 1 → ∀ h6, h6 = sI h5 a0 12 0 → (((hI h6 a0 11) = 0 → Q h6) ∧ (¬ (hI h6 a0 11) = 0 → AC w mX7_traceBest 0 0 (rV fun h7 => Q h7) [.ref a0] h6))))) [.ref a0, .ref (hR h a0 9), .int (-1)] h) : AW w mX7_choose 0 0 (rV Q) 0 0 0 [some (.ref a0)] [] h := by
  refine aw_aload_n 1 dX7_choose_0 rfl rfl ?_
  refine aw_aload_n 2 dX7_choose_1 rfl rfl ?_
  obtain ⟨g1, H⟩ := H
  obtain ⟨g2, H⟩ := H
  refine aw_getR 5 dX7_choose_2 rfl fl_X7_28 ir_7_9 g1 rfl g2 ?_
  refine aw_iconst (v := (-1)) 6 dX7_choose_5 rfl (by decide) ?_
  refine aw_callV (stk := []) (ci := 7) [.ref (hR h a0 9), .int (-1)] 9 dX7_choose_6 rfl mv_X7_172 ⟨by decide, by decide⟩ g1 (by intro r hr; cases hr; rfl) rfl rfl (by simp [Value.category]) (by decide) H ?_
  rintro _ h1 ⟨rfl, H⟩
  refine aw_aload_n 10 dX7_choose_9 rfl rfl ?_
  refine aw_aload_n 11 dX7_choose_10 rfl rfl ?_
  obtain ⟨g3, H⟩ := H
  obtain ⟨g4, H⟩ := H
  refine aw_getR 14 dX7_choose_11 rfl fl_X7_28 ir_7_9 g3 rfl g4 ?_
  refine aw_iconst (v := 0) 15 dX7_choose_14 rfl (by decide) ?_
  obtain ⟨g5, H⟩ := H
  obtain ⟨g6, H⟩ := H
  refine aw_iald 16 dX7_choose_15 rfl (Or.inl (shp g5)) g6 ?_
  refine aw_ldc 18 dX7_choose_16 rfl kc_X7_102 ?_
  refine aw_icmp_ge 25 21 dX7_choose_18 rfl (by decide) (fun c7 => ?_) (fun c7 => ?_)
  · replace H := H.1 c7
    refine aw_iconst (v := 0) 26 dX7_choose_25 rfl (by decide) ?_
    refine aw_putZ 29 dX7_choose_26 rfl fl_X7_176 (by decide) (by decide) g3 nf_7_11 ?_
    replace H := H _ rfl
    refine aw_aload_n 30 dX7_choose_29 rfl rfl ?_
    refine aw_iconst (v := 0) 31 dX7_choose_30 rfl (by decide) ?_
    refine aw_putI 34 dX7_choose_31 rfl fl_X7_179 (by decide) g3 nf_7_12 ?_
    replace H := H _ rfl
    refine aw_aload_n 35 dX7_choose_34 rfl rfl ?_
    refine aw_getI 38 dX7_choose_35 rfl fl_X7_176 (by decide) g3 ?_
    refine aw_if_eq 45 41 dX7_choose_38 rfl (by decide) (fun c8 => ?_) (fun c8 => ?_)
    · replace H := H.1 c8
      exact aw_return dX7_choose_45 rfl (by decide) (by decide) ⟨rfl, H⟩
    · replace H := H.2 c8
      refine aw_aload_n 42 dX7_choose_41 rfl rfl ?_
      refine aw_callV (stk := []) (ci := 7) [] 45 dX7_choose_42 rfl mv_X7_182 ⟨by decide, by decide⟩ g3 (by intro r hr; cases hr; rfl) rfl rfl (by simp [Value.category]) (by decide) H ?_
      rintro _ h4 ⟨rfl, H⟩
      exact aw_return dX7_choose_45 rfl (by decide) (by decide) ⟨rfl, H⟩
  · replace H := H.2 c7
    refine aw_iconst (v := 1) 22 dX7_choose_21 rfl (by decide) ?_
    refine aw_goto 26 dX7_choose_22 (by decide) ?_
    refine aw_putZ 29 dX7_choose_26 rfl fl_X7_176 (by decide) (by decide) g3 nf_7_11 ?_
    replace H := H _ rfl
    refine aw_aload_n 30 dX7_choose_29 rfl rfl ?_
    refine aw_iconst (v := 0) 31 dX7_choose_30 rfl (by decide) ?_
    refine aw_putI 34 dX7_choose_31 rfl fl_X7_179 (by decide) g3 nf_7_12 ?_
    replace H := H _ rfl
    refine aw_aload_n 35 dX7_choose_34 rfl rfl ?_
    refine aw_getI 38 dX7_choose_35 rfl fl_X7_176 (by decide) g3 ?_
    refine aw_if_eq 45 41 dX7_choose_38 rfl (by decide) (fun c9 => ?_) (fun c9 => ?_)
    · replace H := H.1 c9
      exact aw_return dX7_choose_45 rfl (by decide) (by decide) ⟨rfl, H⟩
    · replace H := H.2 c9
      refine aw_aload_n 42 dX7_choose_41 rfl rfl ?_
      refine aw_callV (stk := []) (ci := 7) [] 45 dX7_choose_42 rfl mv_X7_182 ⟨by decide, by decide⟩ g3 (by intro r hr; cases hr; rfl) rfl rfl (by simp [Value.category]) (by decide) H ?_
      rintro _ h7 ⟨rfl, H⟩
      exact aw_return dX7_choose_45 rfl (by decide) (by decide) ⟨rfl, H⟩
theorem eX7_choose {w : Wd} {Q : Hp → Prop} {h : Hp} {a0 : Nat} (H : AW w mX7_choose 0 0 (rV Q) 0 0 0 [some (.ref a0)] [] h) : AC w mX7_choose 0 0 (rV Q) [.ref a0] h := AC.ofL (by decide) (by simp [enl, Value.category]) (by simp [leL, enl, Value.category]) H
set_option maxHeartbeats 4000000 in
set_option maxRecDepth 100000 in
theorem sX7_traceBest_0 {w : Wd} {Q : Hp → Prop} {h : Hp} {a0 : Nat} (H : AW w mX7_traceBest 0 0 (rV Q) 0 0 6 [some (.ref a0), some (.int 0), some (.int 0), some (.int 0), none] [] h) : AW w mX7_traceBest 0 0 (rV Q) 0 0 0 [some (.ref a0), none, none, none, none] [] h := by
  refine aw_iconst (v := 0) 1 dX7_traceBest_0 rfl (by decide) ?_
  refine aw_istore_n (loc' := [some (.ref a0), some (.int 0), none, none, none]) 2 dX7_traceBest_1 rfl (by decide) rfl ?_
  refine aw_iconst (v := 0) 3 dX7_traceBest_2 rfl (by decide) ?_
  refine aw_istore_n (loc' := [some (.ref a0), some (.int 0), some (.int 0), none, none]) 4 dX7_traceBest_3 rfl (by decide) rfl ?_
  refine aw_iconst (v := 0) 5 dX7_traceBest_4 rfl (by decide) ?_
  refine aw_istore_n (loc' := [some (.ref a0), some (.int 0), some (.int 0), some (.int 0), none]) 6 dX7_traceBest_5 rfl (by decide) rfl ?_
  exact H
theorem eX7_traceBest {w : Wd} {Q : Hp → Prop} {h : Hp} {a0 : Nat} (H : AW w mX7_traceBest 0 0 (rV Q) 0 0 0 [some (.ref a0), none, none, none, none] [] h) : AC w mX7_traceBest 0 0 (rV Q) [.ref a0] h := AC.ofL (by decide) (by simp [enl, Value.category]) (by simp [leL, enl, Value.category]) H
set_option maxHeartbeats 4000000 in
set_option maxRecDepth 100000 in
theorem sX7_traceBest_6 {w : Wd} {Q : Hp → Prop} {h : Hp} {a0 : Nat} {x1 : Int32} {x2 : Int32} {x3 : Int32} (H : ((40 ≤ x3 → Q h) ∧ (¬ 40 ≤ x3 → (hs h a0).1 = 27 ∧ hR h a0 0 ≠ 0 ∧ (hs h (hR h a0 0)).1 = 9 ∧ vp_in 0 (hs h (hR h a0 0)).2 ∧ hR h (hR h a0 0) (0 : Int32).toNatClampNeg ≠ 0 ∧ (hs h (hR h (hR h a0 0) (0 : Int32).toNatClampNeg)).1 = 20 ∧ ((x1 < (hI h (hR h (hR h a0 0) (0 : Int32).toNatClampNeg) 5) → AW w mX7_traceBest 0 0 (rV Q) 0 0 38 [some (.ref a0), some (.int x1), some (.int x2), some (.int x3), none] [] h) ∧ (¬ x1 < (hI h (hR h (hR h a0 0) (0 : Int32).toNatClampNeg) 5) → vp_in 1 (hs h (hR h a0 0)).2 ∧ hR h (hR h a0 0) (1 : Int32).toNatClampNeg ≠ 0 ∧ (hs h (hR h (hR h a0 0) (1 : Int32).toNatClampNeg)).1 = 20 ∧ (((hI h (hR h (hR h a0 0) (1 : Int32).toNatClampNeg) 5) ≤ x2 → Q h) ∧ (¬ (hI h (hR h (hR h a0 0) (1 : Int32).toNatClampNeg) 5) ≤ x2 → AW w mX7_traceBest 0 0 (rV Q) 0 0 38 [some (.ref a0), some (.int x1), some (.int x2), some (.int x3), none] [] h))))))) : AW w mX7_traceBest 0 0 (rV Q) 0 0 6 [some (.ref a0), some (.int x1), some (.int x2), some (.int x3), none] [] h := by
  refine aw_iload_n 7 dX7_traceBest_6 rfl rfl ?_
  refine aw_bipush (v := 40) 9 dX7_traceBest_7 rfl (by decide) ?_
  refine aw_icmp_ge 117 12 dX7_traceBest_9 rfl (by decide) (fun c1 => ?_) (fun c1 => ?_)
  · replace H := H.1 c1
    exact aw_return dX7_traceBest_117 rfl (by decide) (by decide) ⟨rfl, H⟩
  · replace H := H.2 c1
    refine aw_iload_n 13 dX7_traceBest_12 rfl rfl ?_
    refine aw_aload_n 14 dX7_traceBest_13 rfl rfl ?_
    obtain ⟨g2, H⟩ := H
    obtain ⟨g3, H⟩ := H
    refine aw_getR 17 dX7_traceBest_14 rfl fl_X7_46 ir_7_0 g2 rfl g3 ?_
    refine aw_iconst (v := 0) 18 dX7_traceBest_17 rfl (by decide) ?_
    obtain ⟨g4, H⟩ := H
    obtain ⟨g5, H⟩ := H
    obtain ⟨g6, H⟩ := H
    refine aw_aald 19 dX7_traceBest_18 rfl (shp g4) (by decide) g5 rfl g6 ?_
    obtain ⟨g7, H⟩ := H
    refine aw_getI 22 dX7_traceBest_19 rfl fl_X7_80 (by decide) g7 ?_
    refine aw_icmp_lt 38 25 dX7_traceBest_22 rfl (by decide) (fun c8 => ?_) (fun c8 => ?_)
    · replace H := H.1 c8
      exact H
    · replace H := H.2 c8
      refine aw_iload_n 26 dX7_traceBest_25 rfl rfl ?_
      refine aw_aload_n 27 dX7_traceBest_26 rfl rfl ?_
      refine aw_getR 30 dX7_traceBest_27 rfl fl_X7_46 ir_7_0 g2 rfl g3 ?_
      refine aw_iconst (v := 1) 31 dX7_traceBest_30 rfl (by decide) ?_
      obtain ⟨g9, H⟩ := H
      obtain ⟨g10, H⟩ := H
      refine aw_aald 32 dX7_traceBest_31 rfl (shp g4) (by decide) g9 rfl g10 ?_
      obtain ⟨g11, H⟩ := H
      refine aw_getI 35 dX7_traceBest_32 rfl fl_X7_80 (by decide) g11 ?_
      refine aw_icmp_ge 117 38 dX7_traceBest_35 rfl (by decide) (fun c12 => ?_) (fun c12 => ?_)
      · replace H := H.1 c12
        exact aw_return dX7_traceBest_117 rfl (by decide) (by decide) ⟨rfl, H⟩
      · replace H := H.2 c12
        exact H
set_option maxHeartbeats 4000000 in
set_option maxRecDepth 100000 in
theorem sX7_traceBest_38 {w : Wd} {Q : Hp → Prop} {h : Hp} {a0 : Nat} {x1 : Int32} {x2 : Int32} {x3 : Int32} (H : (hs h a0).1 = 27 ∧ AC w mX7_firstBestKind 0 0 (rI fun r1 h1 => (hs h1 a0).1 = 27 ∧ hR h1 a0 13 ≠ 0 ∧ (hs h1 (hR h1 a0 13)).1 = 1 ∧ vp_in x3 (hs h1 (hR h1 a0 13)).2 ∧ ∀ h2, h2 = sI h1 (hR h1 a0 13) x3.toNatClampNeg r1 → hR h1 a0 14 ≠ 0 ∧ (hs h1 (hR h1 a0 14)).1 = 1 ∧ vp_in x3 (hs h1 (hR h1 a0 14)).2 ∧ ∀ h3, h3 = sI h2 (hR h1 a0 14) x3.toNatClampNeg x1 → hR h1 a0 15 ≠ 0 ∧ (hs h1 (hR h1 a0 15)).1 = 1 ∧ vp_in x3 (hs h1 (hR h1 a0 15)).2 ∧ ∀ h4, h4 = sI h3 (hR h1 a0 15) x3.toNatClampNeg x2 → hR h1 a0 16 ≠ 0 ∧ hR h1 a0 8 ≠ 0 ∧ AC w mX7_costIndex 0 0 (rI fun r2 h5 => (hs h5 (hR h1 a0 8)).1 = 1 ∧ vp_in r2 (hs h5 (hR h1 a0 8)).2 ∧ (hs h5 (hR h1 a0 16)).1 = 1 ∧ vp_in x3 (hs h5 (hR h1 a0 16)).2 ∧ ∀ h6, h6 = sI h5 (hR h1 a0 16) x3.toNatClampNeg (hI h5 (hR h1 a0 8) r2.toNatClampNeg) → (hs h5 a0).1 = 27 ∧ ∀ h7, h7 = sI h6 a0 12 (x3 + 1) → (hs h5 1).1 = 4 ∧ vp_in r1 (hs h5 1).2 ∧ (hs h5 2).1 = 4 ∧ vp_in r1 (hs h5 2).2 ∧ AW w mX7_traceBest 0 0 (rV Q) 0 0 6 [some (.ref a0), some (.int (x1 + (hI h7 1 r1.toNatClampNeg))), some (.int (x2 + (hI h7 2 r1.toNatClampNeg))), some (.int (x3 + 1)), none] [] h7) [.int r1, .int x1, .int x2] h4) [.ref a0, .int x1, .int x2] h) : AW w mX7_traceBest 0 0 (rV Q) 0 0 38 [some (.ref a0), some (.int x1), some (.int x2), some (.int x3), none] [] h := by
  refine aw_aload_n 39 dX7_traceBest_38 rfl rfl ?_
  refine aw_iload_n 40 dX7_traceBest_39 rfl rfl ?_
  refine aw_iload_n 41 dX7_traceBest_40 rfl rfl ?_
  obtain ⟨g1, H⟩ := H
  refine aw_callV (stk := []) (ci := 7) [.int x1, .int x2] 44 dX7_traceBest_41 rfl mv_X7_185 ⟨by decide, by decide⟩ g1 (by intro r hr; cases hr; rfl) rfl rfl (by simp [Value.category]) (by decide) H ?_
  rintro _ h1 ⟨r1, rfl, H⟩
  refine aw_istore (loc' := [some (.ref a0), some (.int x1), some (.int x2), some (.int x3), some (.int r1)]) 46 dX7_traceBest_44 rfl (by decide) rfl ?_
  refine aw_aload_n 47 dX7_traceBest_46 rfl rfl ?_
  obtain ⟨g2, H⟩ := H
  obtain ⟨g3, H⟩ := H
  refine aw_getR 50 dX7_traceBest_47 rfl fl_X7_34 ir_7_13 g2 rfl g3 ?_
  refine aw_iload_n 51 dX7_traceBest_50 rfl rfl ?_
  refine aw_iload 53 dX7_traceBest_51 rfl rfl ?_
  obtain ⟨g4, H⟩ := H
  obtain ⟨g5, H⟩ := H
  refine aw_iast 54 dX7_traceBest_53 rfl (shp g4) g5 ?_
  replace H := H _ rfl
  refine aw_aload_n 55 dX7_traceBest_54 rfl rfl ?_
  obtain ⟨g6, H⟩ := H
  refine aw_getR 58 dX7_traceBest_55 rfl fl_X7_37 ir_7_14 g2 rfl g6 ?_
  refine aw_iload_n 59 dX7_traceBest_58 rfl rfl ?_
  refine aw_iload_n 60 dX7_traceBest_59 rfl rfl ?_
  obtain ⟨g7, H⟩ := H
  obtain ⟨g8, H⟩ := H
  refine aw_iast 61 dX7_traceBest_60 rfl (shp g7) g8 ?_
  replace H := H _ rfl
  refine aw_aload_n 62 dX7_traceBest_61 rfl rfl ?_
  obtain ⟨g9, H⟩ := H
  refine aw_getR 65 dX7_traceBest_62 rfl fl_X7_40 ir_7_15 g2 rfl g9 ?_
  refine aw_iload_n 66 dX7_traceBest_65 rfl rfl ?_
  refine aw_iload_n 67 dX7_traceBest_66 rfl rfl ?_
  obtain ⟨g10, H⟩ := H
  obtain ⟨g11, H⟩ := H
  refine aw_iast 68 dX7_traceBest_67 rfl (shp g10) g11 ?_
  replace H := H _ rfl
  refine aw_aload_n 69 dX7_traceBest_68 rfl rfl ?_
  obtain ⟨g12, H⟩ := H
  refine aw_getR 72 dX7_traceBest_69 rfl fl_X7_43 ir_7_16 g2 rfl g12 ?_
  refine aw_iload_n 73 dX7_traceBest_72 rfl rfl ?_
  refine aw_aload_n 74 dX7_traceBest_73 rfl rfl ?_
  obtain ⟨g13, H⟩ := H
  refine aw_getR 77 dX7_traceBest_74 rfl fl_X7_25 ir_7_8 g2 rfl g13 ?_
  refine aw_iload 79 dX7_traceBest_77 rfl rfl ?_
  refine aw_iload_n 80 dX7_traceBest_79 rfl rfl ?_
  refine aw_iload_n 81 dX7_traceBest_80 rfl rfl ?_
  refine aw_callS (stk := [.ref (hR h1 a0 8), .int x3, .ref (hR h1 a0 16)]) [.int r1, .int x1, .int x2] 84 dX7_traceBest_81 rfl mv_X7_91 ⟨by decide, by decide⟩ rfl rfl (by simp [Value.category]) (by decide) H ?_
  rintro _ h5 ⟨r2, rfl, H⟩
  obtain ⟨g14, H⟩ := H
  obtain ⟨g15, H⟩ := H
  refine aw_iald 85 dX7_traceBest_84 rfl (Or.inl (shp g14)) g15 ?_
  obtain ⟨g16, H⟩ := H
  obtain ⟨g17, H⟩ := H
  refine aw_iast 86 dX7_traceBest_85 rfl (shp g16) g17 ?_
  replace H := H _ rfl
  refine aw_aload_n 87 dX7_traceBest_86 rfl rfl ?_
  refine aw_iload_n 88 dX7_traceBest_87 rfl rfl ?_
  refine aw_iconst (v := 1) 89 dX7_traceBest_88 rfl (by decide) ?_
  refine aw_iadd 90 dX7_traceBest_89 rfl ?_
  obtain ⟨g18, H⟩ := H
  refine aw_putI 93 dX7_traceBest_90 rfl fl_X7_179 (by decide) g18 nf_7_12 ?_
  replace H := H _ rfl
  refine aw_iload_n 94 dX7_traceBest_93 rfl rfl ?_
  refine aw_getsN (j := 1) 97 dX7_traceBest_94 rfl (by decide) gs_X7_103 ?_
  refine aw_iload 99 dX7_traceBest_97 rfl rfl ?_
  obtain ⟨g19, H⟩ := H
  obtain ⟨g20, H⟩ := H
  refine aw_iald 100 dX7_traceBest_99 rfl (Or.inr (shp g19)) g20 ?_
  refine aw_iadd 101 dX7_traceBest_100 rfl ?_
  refine aw_istore_n (loc' := [some (.ref a0), some (.int (x1 + (hI (sI (sI h5 (hR h1 a0 16) x3.toNatClampNeg (hI h5 (hR h1 a0 8) r2.toNatClampNeg)) a0 12 (x3 + 1)) 1 r1.toNatClampNeg))), some (.int x2), some (.int x3), some (.int r1)]) 102 dX7_traceBest_101 rfl (by decide) rfl ?_
  refine aw_iload_n 103 dX7_traceBest_102 rfl rfl ?_
  refine aw_getsN (j := 2) 106 dX7_traceBest_103 rfl (by decide) gs_X7_110 ?_
  refine aw_iload 108 dX7_traceBest_106 rfl rfl ?_
  obtain ⟨g21, H⟩ := H
  obtain ⟨g22, H⟩ := H
  refine aw_iald 109 dX7_traceBest_108 rfl (Or.inr (shp g21)) g22 ?_
  refine aw_iadd 110 dX7_traceBest_109 rfl ?_
  refine aw_istore_n (loc' := [some (.ref a0), some (.int (x1 + (hI (sI (sI h5 (hR h1 a0 16) x3.toNatClampNeg (hI h5 (hR h1 a0 8) r2.toNatClampNeg)) a0 12 (x3 + 1)) 1 r1.toNatClampNeg))), some (.int (x2 + (hI (sI (sI h5 (hR h1 a0 16) x3.toNatClampNeg (hI h5 (hR h1 a0 8) r2.toNatClampNeg)) a0 12 (x3 + 1)) 2 r1.toNatClampNeg))), some (.int x3), some (.int r1)]) 111 dX7_traceBest_110 rfl (by decide) rfl ?_
  refine aw_iinc (y := 1) (loc' := [some (.ref a0), some (.int (x1 + (hI (sI (sI h5 (hR h1 a0 16) x3.toNatClampNeg (hI h5 (hR h1 a0 8) r2.toNatClampNeg)) a0 12 (x3 + 1)) 1 r1.toNatClampNeg))), some (.int (x2 + (hI (sI (sI h5 (hR h1 a0 16) x3.toNatClampNeg (hI h5 (hR h1 a0 8) r2.toNatClampNeg)) a0 12 (x3 + 1)) 2 r1.toNatClampNeg))), some (.int (x3 + 1)), some (.int r1)]) 114 dX7_traceBest_111 rfl (by decide) rfl (by decide) rfl ?_
  refine aw_goto 6 dX7_traceBest_114 (by decide) ?_
  exact aw_fgt (by simp [leL]) H
set_option maxHeartbeats 4000000 in
set_option maxRecDepth 100000 in
theorem sX7_firstBestKind_0 {w : Wd} {Q : Int32 → Hp → Prop} {h : Hp} {a0 : Nat} {x1 : Int32} {x2 : Int32} (H : AW w mX7_firstBestKind 0 0 (rI Q) 0 0 2 [some (.ref a0), some (.int x1), some (.int x2), some (.int 0)] [] h) : AW w mX7_firstBestKind 0 0 (rI Q) 0 0 0 [some (.ref a0), some (.int x1), some (.int x2), none] [] h := by
  refine aw_iconst (v := 0) 1 dX7_firstBestKind_0 rfl (by decide) ?_
  refine aw_istore_n (loc' := [some (.ref a0), some (.int x1), some (.int x2), some (.int 0)]) 2 dX7_firstBestKind_1 rfl (by decide) rfl ?_
  exact H
theorem eX7_firstBestKind {w : Wd} {Q : Int32 → Hp → Prop} {h : Hp} {a0 : Nat} {x1 : Int32} {x2 : Int32} (H : AW w mX7_firstBestKind 0 0 (rI Q) 0 0 0 [some (.ref a0), some (.int x1), some (.int x2), none] [] h) : AC w mX7_firstBestKind 0 0 (rI Q) [.ref a0, .int x1, .int x2] h := AC.ofL (by decide) (by simp [enl, Value.category]) (by simp [leL, enl, Value.category]) H
set_option maxHeartbeats 4000000 in
set_option maxRecDepth 100000 in
theorem sX7_firstBestKind_2 {w : Wd} {Q : Int32 → Hp → Prop} {h : Hp} {a0 : Nat} {x1 : Int32} {x2 : Int32} {x3 : Int32} (H : ((6 ≤ x3 → Q x3 h) ∧ (¬ 6 ≤ x3 → (hs h a0).1 = 27 ∧ hR h a0 9 ≠ 0 ∧ AC w mX7_sumBy 0 0 (rI fun r1 h1 => (hs h1 a0).1 = 27 ∧ hR h1 a0 9 ≠ 0 ∧ AC w mX7_placeOf 0 0 (rI fun r2 h2 => (hs h2 (hR h1 a0 9)).1 = 1 ∧ vp_in r2 (hs h2 (hR h1 a0 9)).2 ∧ ((r1 = (hI h2 (hR h1 a0 9) r2.toNatClampNeg) → Q x3 h2) ∧ (¬ r1 = (hI h2 (hR h1 a0 9) r2.toNatClampNeg) → AW w mX7_firstBestKind 0 0 (rI Q) 0 0 2 [some (.ref a0), some (.int x1), some (.int x2), some (.int (x3 + 1))] [] h2))) [.int x1, .int x2] h1) [.ref a0, .ref (hR h a0 9), .int x3, .int x1, .int x2] h))) : AW w mX7_firstBestKind 0 0 (rI Q) 0 0 2 [some (.ref a0), some (.int x1), some (.int x2), some (.int x3)] [] h := by
  refine aw_iload_n 3 dX7_firstBestKind_2 rfl rfl ?_
  refine aw_bipush (v := 6) 5 dX7_firstBestKind_3 rfl (by decide) ?_
  refine aw_icmp_ge 38 8 dX7_firstBestKind_5 rfl (by decide) (fun c1 => ?_) (fun c1 => ?_)
  · replace H := H.1 c1
    refine aw_iload_n 39 dX7_firstBestKind_38 rfl rfl ?_
    exact aw_ireturn dX7_firstBestKind_39 rfl (by decide) (by decide) ⟨_, rfl, H⟩
  · replace H := H.2 c1
    refine aw_aload_n 9 dX7_firstBestKind_8 rfl rfl ?_
    refine aw_aload_n 10 dX7_firstBestKind_9 rfl rfl ?_
    obtain ⟨g2, H⟩ := H
    obtain ⟨g3, H⟩ := H
    refine aw_getR 13 dX7_firstBestKind_10 rfl fl_X7_28 ir_7_9 g2 rfl g3 ?_
    refine aw_iload_n 14 dX7_firstBestKind_13 rfl rfl ?_
    refine aw_iload_n 15 dX7_firstBestKind_14 rfl rfl ?_
    refine aw_iload_n 16 dX7_firstBestKind_15 rfl rfl ?_
    refine aw_callV (stk := []) (ci := 7) [.ref (hR h a0 9), .int x3, .int x1, .int x2] 19 dX7_firstBestKind_16 rfl mv_X7_165 ⟨by decide, by decide⟩ g2 (by intro r hr; cases hr; rfl) rfl rfl (by simp [Value.category]) (by decide) H ?_
    rintro _ h1 ⟨r1, rfl, H⟩
    refine aw_aload_n 20 dX7_firstBestKind_19 rfl rfl ?_
    obtain ⟨g4, H⟩ := H
    obtain ⟨g5, H⟩ := H
    refine aw_getR 23 dX7_firstBestKind_20 rfl fl_X7_28 ir_7_9 g4 rfl g5 ?_
    refine aw_iload_n 24 dX7_firstBestKind_23 rfl rfl ?_
    refine aw_iload_n 25 dX7_firstBestKind_24 rfl rfl ?_
    refine aw_callS (stk := [.ref (hR h1 a0 9), .int r1]) [.int x1, .int x2] 28 dX7_firstBestKind_25 rfl mv_X7_169 ⟨by decide, by decide⟩ rfl rfl (by simp [Value.category]) (by decide) H ?_
    rintro _ h2 ⟨r2, rfl, H⟩
    obtain ⟨g6, H⟩ := H
    obtain ⟨g7, H⟩ := H
    refine aw_iald 29 dX7_firstBestKind_28 rfl (Or.inl (shp g6)) g7 ?_
    refine aw_icmp_eq 38 32 dX7_firstBestKind_29 rfl (by decide) (fun c8 => ?_) (fun c8 => ?_)
    · replace H := H.1 c8
      refine aw_iload_n 39 dX7_firstBestKind_38 rfl rfl ?_
      exact aw_ireturn dX7_firstBestKind_39 rfl (by decide) (by decide) ⟨_, rfl, H⟩
    · replace H := H.2 c8
      refine aw_iinc (y := 1) (loc' := [some (.ref a0), some (.int x1), some (.int x2), some (.int (x3 + 1))]) 35 dX7_firstBestKind_32 rfl (by decide) rfl (by decide) rfl ?_
      refine aw_goto 2 dX7_firstBestKind_35 (by decide) ?_
      exact H
set_option maxHeartbeats 4000000 in
set_option maxRecDepth 100000 in
theorem sX7_hasJoint_0 {w : Wd} {Q : Int32 → Hp → Prop} {h : Hp} {a0 : Nat} {x1 : Int32} (H : ((x1 < 0 → Q 0 h) ∧ (¬ x1 < 0 → (hs h a0).1 = 27 ∧ (((hI h a0 12) ≤ x1 → Q 0 h) ∧ (¬ (hI h a0 12) ≤ x1 → Q 1 h))))) : AW w mX7_hasJoint 0 0 (rI Q) 0 0 0 [some (.ref a0), some (.int x1)] [] h := by
  refine aw_iload_n 1 dX7_hasJoint_0 rfl rfl ?_
  refine aw_if_lt 16 4 dX7_hasJoint_1 rfl (by decide) (fun c1 => ?_) (fun c1 => ?_)
  · replace H := H.1 c1
    refine aw_iconst (v := 0) 17 dX7_hasJoint_16 rfl (by decide) ?_
    exact aw_zreturn dX7_hasJoint_17 rfl (by decide) (by decide) (by decide) ⟨_, rfl, H⟩
  · replace H := H.2 c1
    refine aw_iload_n 5 dX7_hasJoint_4 rfl rfl ?_
    refine aw_aload_n 6 dX7_hasJoint_5 rfl rfl ?_
    obtain ⟨g2, H⟩ := H
    refine aw_getI 9 dX7_hasJoint_6 rfl fl_X7_179 (by decide) g2 ?_
    refine aw_icmp_ge 16 12 dX7_hasJoint_9 rfl (by decide) (fun c3 => ?_) (fun c3 => ?_)
    · replace H := H.1 c3
      refine aw_iconst (v := 0) 17 dX7_hasJoint_16 rfl (by decide) ?_
      exact aw_zreturn dX7_hasJoint_17 rfl (by decide) (by decide) (by decide) ⟨_, rfl, H⟩
    · replace H := H.2 c3
      refine aw_iconst (v := 1) 13 dX7_hasJoint_12 rfl (by decide) ?_
      refine aw_goto 17 dX7_hasJoint_13 (by decide) ?_
      exact aw_zreturn dX7_hasJoint_17 rfl (by decide) (by decide) (by decide) ⟨_, rfl, H⟩
theorem eX7_hasJoint {w : Wd} {Q : Int32 → Hp → Prop} {h : Hp} {a0 : Nat} {x1 : Int32} (H : AW w mX7_hasJoint 0 0 (rI Q) 0 0 0 [some (.ref a0), some (.int x1)] [] h) : AC w mX7_hasJoint 0 0 (rI Q) [.ref a0, .int x1] h := AC.ofL (by decide) (by simp [enl, Value.category]) (by simp [leL, enl, Value.category]) H
set_option maxHeartbeats 4000000 in
set_option maxRecDepth 100000 in
theorem sX7_leastFrom_0 {w : Wd} {Q : Int32 → Hp → Prop} {h : Hp} {a0 : Nat} {x1 : Int32} {x2 : Int32} (H : (hs h a0).1 = 27 ∧ hR h a0 9 ≠ 0 ∧ AC w mX7_placeOf 0 0 (rI fun r1 h1 => (hs h1 (hR h a0 9)).1 = 1 ∧ vp_in r1 (hs h1 (hR h a0 9)).2 ∧ Q (hI h1 (hR h a0 9) r1.toNatClampNeg) h1) [.int x1, .int x2] h) : AW w mX7_leastFrom 0 0 (rI Q) 0 0 0 [some (.ref a0), some (.int x1), some (.int x2)] [] h := by
  refine aw_aload_n 1 dX7_leastFrom_0 rfl rfl ?_
  obtain ⟨g1, H⟩ := H
  obtain ⟨g2, H⟩ := H
  refine aw_getR 4 dX7_leastFrom_1 rfl fl_X7_28 ir_7_9 g1 rfl g2 ?_
  refine aw_iload_n 5 dX7_leastFrom_4 rfl rfl ?_
  refine aw_iload_n 6 dX7_leastFrom_5 rfl rfl ?_
  refine aw_callS (stk := [.ref (hR h a0 9)]) [.int x1, .int x2] 9 dX7_leastFrom_6 rfl mv_X7_169 ⟨by decide, by decide⟩ rfl rfl (by simp [Value.category]) (by decide) H ?_
  rintro _ h1 ⟨r1, rfl, H⟩
  obtain ⟨g3, H⟩ := H
  obtain ⟨g4, H⟩ := H
  refine aw_iald 10 dX7_leastFrom_9 rfl (Or.inl (shp g3)) g4 ?_
  exact aw_ireturn dX7_leastFrom_10 rfl (by decide) (by decide) ⟨_, rfl, H⟩
theorem eX7_leastFrom {w : Wd} {Q : Int32 → Hp → Prop} {h : Hp} {a0 : Nat} {x1 : Int32} {x2 : Int32} (H : AW w mX7_leastFrom 0 0 (rI Q) 0 0 0 [some (.ref a0), some (.int x1), some (.int x2)] [] h) : AC w mX7_leastFrom 0 0 (rI Q) [.ref a0, .int x1, .int x2] h := AC.ofL (by decide) (by simp [enl, Value.category]) (by simp [leL, enl, Value.category]) H
set_option maxHeartbeats 4000000 in
set_option maxRecDepth 100000 in
theorem sX7_leastButBest_0 {w : Wd} {Q : Int32 → Hp → Prop} {h : Hp} {a0 : Nat} (H : AW w mX7_leastButBest 0 0 (rI Q) 0 0 7 [some (.ref a0), some (.int 1000000000), some (.int 0), some (.int 0), none, none] [] h) : AW w mX7_leastButBest 0 0 (rI Q) 0 0 0 [some (.ref a0), none, none, none, none, none] [] h := by
  refine aw_ldc 2 dX7_leastButBest_0 rfl kc_X7_102 ?_
  refine aw_istore_n (loc' := [some (.ref a0), some (.int 1000000000), none, none, none, none]) 3 dX7_leastButBest_2 rfl (by decide) rfl ?_
  refine aw_iconst (v := 0) 4 dX7_leastButBest_3 rfl (by decide) ?_
  refine aw_istore_n (loc' := [some (.ref a0), some (.int 1000000000), some (.int 0), none, none, none]) 5 dX7_leastButBest_4 rfl (by decide) rfl ?_
  refine aw_iconst (v := 0) 6 dX7_leastButBest_5 rfl (by decide) ?_
  refine aw_istore_n (loc' := [some (.ref a0), some (.int 1000000000), some (.int 0), some (.int 0), none, none]) 7 dX7_leastButBest_6 rfl (by decide) rfl ?_
  exact H
theorem eX7_leastButBest {w : Wd} {Q : Int32 → Hp → Prop} {h : Hp} {a0 : Nat} (H : AW w mX7_leastButBest 0 0 (rI Q) 0 0 0 [some (.ref a0), none, none, none, none, none] [] h) : AC w mX7_leastButBest 0 0 (rI Q) [.ref a0] h := AC.ofL (by decide) (by simp [enl, Value.category]) (by simp [leL, enl, Value.category]) H
set_option maxHeartbeats 4000000 in
set_option maxRecDepth 100000 in
theorem sX7_leastButBest_7 {w : Wd} {Q : Int32 → Hp → Prop} {h : Hp} {a0 : Nat} {x1 : Int32} {x2 : Int32} {x3 : Int32} (H : (hs h a0).1 = 27 ∧ (((hI h a0 12) ≤ x3 → Q x1 h) ∧ (¬ (hI h a0 12) ≤ x3 → AW w mX7_leastButBest 0 0 (rI Q) 0 0 18 [some (.ref a0), some (.int x1), some (.int x2), some (.int x3), some (.int 0), none] [] h))) : AW w mX7_leastButBest 0 0 (rI Q) 0 0 7 [some (.ref a0), some (.int x1), some (.int x2), some (.int x3), none, none] [] h := by
  refine aw_iload_n 8 dX7_leastButBest_7 rfl rfl ?_
  refine aw_aload_n 9 dX7_leastButBest_8 rfl rfl ?_
  obtain ⟨g1, H⟩ := H
  refine aw_getI 12 dX7_leastButBest_9 rfl fl_X7_179 (by decide) g1 ?_
  refine aw_icmp_ge 102 15 dX7_leastButBest_12 rfl (by decide) (fun c2 => ?_) (fun c2 => ?_)
  · replace H := H.1 c2
    refine aw_iload_n 103 dX7_leastButBest_102 rfl rfl ?_
    exact aw_ireturn dX7_leastButBest_103 rfl (by decide) (by decide) ⟨_, rfl, H⟩
  · replace H := H.2 c2
    refine aw_iconst (v := 0) 16 dX7_leastButBest_15 rfl (by decide) ?_
    refine aw_istore (loc' := [some (.ref a0), some (.int x1), some (.int x2), some (.int x3), some (.int 0), none]) 18 dX7_leastButBest_16 rfl (by decide) rfl ?_
    exact H
set_option maxHeartbeats 4000000 in
set_option maxRecDepth 100000 in
theorem sX7_leastButBest_18 {w : Wd} {Q : Int32 → Hp → Prop} {h : Hp} {a0 : Nat} {x1 : Int32} {x2 : Int32} {x3 : Int32} {x4 : Int32} (H : ((7 ≤ x4 → (hs h a0).1 = 27 ∧ hR h a0 16 ≠ 0 ∧ (hs h (hR h a0 16)).1 = 1 ∧ vp_in x3 (hs h (hR h a0 16)).2 ∧ AW w mX7_leastButBest 0 0 (rI Q) 0 0 7 [some (.ref a0), some (.int x1), some (.int (x2 + (hI h (hR h a0 16) x3.toNatClampNeg))), some (.int (x3 + 1)), none, none] [] h) ∧ (¬ 7 ≤ x4 → (hs h a0).1 = 27 ∧ hR h a0 13 ≠ 0 ∧ (hs h (hR h a0 13)).1 = 1 ∧ vp_in x3 (hs h (hR h a0 13)).2 ∧ ((¬ x4 = (hI h (hR h a0 13) x3.toNatClampNeg) → hR h a0 9 ≠ 0 ∧ hR h a0 14 ≠ 0 ∧ (hs h (hR h a0 14)).1 = 1 ∧ vp_in x3 (hs h (hR h a0 14)).2 ∧ hR h a0 15 ≠ 0 ∧ (hs h (hR h a0 15)).1 = 1 ∧ vp_in x3 (hs h (hR h a0 15)).2 ∧ AC w mX7_sumBy 0 0 (rI fun r1 h1 => AW w mX7_leastButBest 0 0 (rI Q) 0 0 63 [some (.ref a0), some (.int x1), some (.int x2), some (.int x3), some (.int x4), none] [.int r1] h1) [.ref a0, .ref (hR h a0 9), .int x4, .int (hI h (hR h a0 14) x3.toNatClampNeg), .int (hI h (hR h a0 15) x3.toNatClampNeg)] h) ∧ (x4 = (hI h (hR h a0 13) x3.toNatClampNeg) → AW w mX7_leastButBest 0 0 (rI Q) 0 0 63 [some (.ref a0), some (.int x1), some (.int x2), some (.int x3), some (.int x4), none] [.int 1000000000] h))))) : AW w mX7_leastButBest 0 0 (rI Q) 0 0 18 [some (.ref a0), some (.int x1), some (.int x2), some (.int x3), some (.int x4), none] [] h := by
  refine aw_iload 20 dX7_leastButBest_18 rfl rfl ?_
  refine aw_bipush (v := 7) 22 dX7_leastButBest_20 rfl (by decide) ?_
  refine aw_icmp_ge 87 25 dX7_leastButBest_22 rfl (by decide) (fun c1 => ?_) (fun c1 => ?_)
  · replace H := H.1 c1
    refine aw_iload_n 88 dX7_leastButBest_87 rfl rfl ?_
    refine aw_aload_n 89 dX7_leastButBest_88 rfl rfl ?_
    obtain ⟨g2, H⟩ := H
    obtain ⟨g3, H⟩ := H
    refine aw_getR 92 dX7_leastButBest_89 rfl fl_X7_43 ir_7_16 g2 rfl g3 ?_
    refine aw_iload_n 93 dX7_leastButBest_92 rfl rfl ?_
    obtain ⟨g4, H⟩ := H
    obtain ⟨g5, H⟩ := H
    refine aw_iald 94 dX7_leastButBest_93 rfl (Or.inl (shp g4)) g5 ?_
    refine aw_iadd 95 dX7_leastButBest_94 rfl ?_
    refine aw_istore_n (loc' := [some (.ref a0), some (.int x1), some (.int (x2 + (hI h (hR h a0 16) x3.toNatClampNeg))), some (.int x3), some (.int x4), none]) 96 dX7_leastButBest_95 rfl (by decide) rfl ?_
    refine aw_iinc (y := 1) (loc' := [some (.ref a0), some (.int x1), some (.int (x2 + (hI h (hR h a0 16) x3.toNatClampNeg))), some (.int (x3 + 1)), some (.int x4), none]) 99 dX7_leastButBest_96 rfl (by decide) rfl (by decide) rfl ?_
    refine aw_goto 7 dX7_leastButBest_99 (by decide) ?_
    exact aw_fgt (by simp [leL]) H
  · replace H := H.2 c1
    refine aw_iload 27 dX7_leastButBest_25 rfl rfl ?_
    refine aw_aload_n 28 dX7_leastButBest_27 rfl rfl ?_
    obtain ⟨g6, H⟩ := H
    obtain ⟨g7, H⟩ := H
    refine aw_getR 31 dX7_leastButBest_28 rfl fl_X7_34 ir_7_13 g6 rfl g7 ?_
    refine aw_iload_n 32 dX7_leastButBest_31 rfl rfl ?_
    obtain ⟨g8, H⟩ := H
    obtain ⟨g9, H⟩ := H
    refine aw_iald 33 dX7_leastButBest_32 rfl (Or.inl (shp g8)) g9 ?_
    refine aw_icmp_ne 41 36 dX7_leastButBest_33 rfl (by decide) (fun c10 => ?_) (fun c10 => ?_)
    · replace H := H.1 c10
      refine aw_aload_n 42 dX7_leastButBest_41 rfl rfl ?_
      refine aw_aload_n 43 dX7_leastButBest_42 rfl rfl ?_
      obtain ⟨g11, H⟩ := H
      refine aw_getR 46 dX7_leastButBest_43 rfl fl_X7_28 ir_7_9 g6 rfl g11 ?_
      refine aw_iload 48 dX7_leastButBest_46 rfl rfl ?_
      refine aw_aload_n 49 dX7_leastButBest_48 rfl rfl ?_
      obtain ⟨g12, H⟩ := H
      refine aw_getR 52 dX7_leastButBest_49 rfl fl_X7_37 ir_7_14 g6 rfl g12 ?_
      refine aw_iload_n 53 dX7_leastButBest_52 rfl rfl ?_
      obtain ⟨g13, H⟩ := H
      obtain ⟨g14, H⟩ := H
      refine aw_iald 54 dX7_leastButBest_53 rfl (Or.inl (shp g13)) g14 ?_
      refine aw_aload_n 55 dX7_leastButBest_54 rfl rfl ?_
      obtain ⟨g15, H⟩ := H
      refine aw_getR 58 dX7_leastButBest_55 rfl fl_X7_40 ir_7_15 g6 rfl g15 ?_
      refine aw_iload_n 59 dX7_leastButBest_58 rfl rfl ?_
      obtain ⟨g16, H⟩ := H
      obtain ⟨g17, H⟩ := H
      refine aw_iald 60 dX7_leastButBest_59 rfl (Or.inl (shp g16)) g17 ?_
      refine aw_callV (stk := []) (ci := 7) [.ref (hR h a0 9), .int x4, .int (hI h (hR h a0 14) x3.toNatClampNeg), .int (hI h (hR h a0 15) x3.toNatClampNeg)] 63 dX7_leastButBest_60 rfl mv_X7_165 ⟨by decide, by decide⟩ g6 (by intro r hr; cases hr; rfl) rfl rfl (by simp [Value.category]) (by decide) H ?_
      rintro _ h1 ⟨r1, rfl, H⟩
      exact H
    · replace H := H.2 c10
      refine aw_ldc 38 dX7_leastButBest_36 rfl kc_X7_102 ?_
      refine aw_goto 63 dX7_leastButBest_38 (by decide) ?_
      exact H
set_option maxHeartbeats 4000000 in
set_option maxRecDepth 100000 in
theorem sX7_leastButBest_63 {w : Wd} {Q : Int32 → Hp → Prop} {h : Hp} {a0 : Nat} {x1 : Int32} {x2 : Int32} {x3 : Int32} {x4 : Int32} {y0 : Int32} (H : ((1000000000 ≤ y0 → AW w mX7_leastButBest 0 0 (rI Q) 0 0 18 [some (.ref a0), some (.int x1), some (.int x2), some (.int x3), some (.int (x4 + 1)), none] [] h) ∧ (¬ 1000000000 ≤ y0 → AW w mX7_leastButBest 0 0 (rI Q) 0 0 18 [some (.ref a0), some (.int (if (x2 + y0) < x1 then (x2 + y0) else x1)), some (.int x2), some (.int x3), some (.int (x4 + 1)), none] [] h))) : AW w mX7_leastButBest 0 0 (rI Q) 0 0 63 [some (.ref a0), some (.int x1), some (.int x2), some (.int x3), some (.int x4), none] [.int y0] h := by
  refine aw_istore (loc' := [some (.ref a0), some (.int x1), some (.int x2), some (.int x3), some (.int x4), some (.int y0)]) 65 dX7_leastButBest_63 rfl (by decide) rfl ?_
  refine aw_iload 67 dX7_leastButBest_65 rfl rfl ?_
  refine aw_ldc 69 dX7_leastButBest_67 rfl kc_X7_102 ?_
  refine aw_icmp_ge 81 72 dX7_leastButBest_69 rfl (by decide) (fun c1 => ?_) (fun c1 => ?_)
  · replace H := H.1 c1
    refine aw_iinc (y := 1) (loc' := [some (.ref a0), some (.int x1), some (.int x2), some (.int x3), some (.int (x4 + 1)), some (.int y0)]) 84 dX7_leastButBest_81 rfl (by decide) rfl (by decide) rfl ?_
    refine aw_goto 18 dX7_leastButBest_84 (by decide) ?_
    exact aw_fgt (by simp [leL]) H
  · replace H := H.2 c1
    refine aw_iload_n 73 dX7_leastButBest_72 rfl rfl ?_
    refine aw_iload_n 74 dX7_leastButBest_73 rfl rfl ?_
    refine aw_iload 76 dX7_leastButBest_74 rfl rfl ?_
    refine aw_iadd 77 dX7_leastButBest_76 rfl ?_
    refine aw_mmin (stk := []) 80 dX7_leastButBest_77 rfl mv_X7_129 (by decide) (by simp [Value.category]) (by decide) (by decide) ?_
    refine aw_istore_n (loc' := [some (.ref a0), some (.int (if (x2 + y0) < x1 then (x2 + y0) else x1)), some (.int x2), some (.int x3), some (.int x4), some (.int y0)]) 81 dX7_leastButBest_80 rfl (by decide) rfl ?_
    refine aw_iinc (y := 1) (loc' := [some (.ref a0), some (.int (if (x2 + y0) < x1 then (x2 + y0) else x1)), some (.int x2), some (.int x3), some (.int (x4 + 1)), some (.int y0)]) 84 dX7_leastButBest_81 rfl (by decide) rfl (by decide) rfl ?_
    refine aw_goto 18 dX7_leastButBest_84 (by decide) ?_
    exact aw_fgt (by simp [leL]) H
set_option maxHeartbeats 4000000 in
set_option maxRecDepth 100000 in
theorem sX7_leastWithout_0 {w : Wd} {Q : Int32 → Hp → Prop} {h : Hp} {a0 : Nat} {x1 : Int32} (H : (hs h a0).1 = 27 ∧ hR h a0 10 ≠ 0 ∧ hR h a0 13 ≠ 0 ∧ (hs h (hR h a0 13)).1 = 1 ∧ vp_in x1 (hs h (hR h a0 13)).2 ∧ hR h a0 14 ≠ 0 ∧ (hs h (hR h a0 14)).1 = 1 ∧ vp_in x1 (hs h (hR h a0 14)).2 ∧ hR h a0 15 ≠ 0 ∧ (hs h (hR h a0 15)).1 = 1 ∧ vp_in x1 (hs h (hR h a0 15)).2 ∧ AC w mX7_costIndex 0 0 (rI fun r1 h1 => (hs h1 a0).1 = 27 ∧ AC w mX7_fillLeast 0 0 (rV fun h2 => (hs h2 a0).1 = 27 ∧ hR h2 a0 10 ≠ 0 ∧ (hs h2 (hR h2 a0 10)).1 = 1 ∧ vp_in 0 (hs h2 (hR h2 a0 10)).2 ∧ Q (hI h2 (hR h2 a0 10) (0 : Int32).toNatClampNeg) h2) [.ref a0, .ref (hR h a0 10), .int r1] h1) [.int (hI h (hR h a0 13) x1.toNatClampNeg), .int (hI h (hR h a0 14) x1.toNatClampNeg), .int (hI h (hR h a0 15) x1.toNatClampNeg)] h) : AW w mX7_leastWithout 0 0 (rI Q) 0 0 0 [some (.ref a0), some (.int x1)] [] h := by
  refine aw_aload_n 1 dX7_leastWithout_0 rfl rfl ?_
  refine aw_aload_n 2 dX7_leastWithout_1 rfl rfl ?_
  obtain ⟨g1, H⟩ := H
  obtain ⟨g2, H⟩ := H
  refine aw_getR 5 dX7_leastWithout_2 rfl fl_X7_31 ir_7_10 g1 rfl g2 ?_
  refine aw_aload_n 6 dX7_leastWithout_5 rfl rfl ?_
  obtain ⟨g3, H⟩ := H
  refine aw_getR 9 dX7_leastWithout_6 rfl fl_X7_34 ir_7_13 g1 rfl g3 ?_
  refine aw_iload_n 10 dX7_leastWithout_9 rfl rfl ?_
  obtain ⟨g4, H⟩ := H
  obtain ⟨g5, H⟩ := H
  refine aw_iald 11 dX7_leastWithout_10 rfl (Or.inl (shp g4)) g5 ?_
  refine aw_aload_n 12 dX7_leastWithout_11 rfl rfl ?_
  obtain ⟨g6, H⟩ := H
  refine aw_getR 15 dX7_leastWithout_12 rfl fl_X7_37 ir_7_14 g1 rfl g6 ?_
  refine aw_iload_n 16 dX7_leastWithout_15 rfl rfl ?_
  obtain ⟨g7, H⟩ := H
  obtain ⟨g8, H⟩ := H
  refine aw_iald 17 dX7_leastWithout_16 rfl (Or.inl (shp g7)) g8 ?_
  refine aw_aload_n 18 dX7_leastWithout_17 rfl rfl ?_
  obtain ⟨g9, H⟩ := H
  refine aw_getR 21 dX7_leastWithout_18 rfl fl_X7_40 ir_7_15 g1 rfl g9 ?_
  refine aw_iload_n 22 dX7_leastWithout_21 rfl rfl ?_
  obtain ⟨g10, H⟩ := H
  obtain ⟨g11, H⟩ := H
  refine aw_iald 23 dX7_leastWithout_22 rfl (Or.inl (shp g10)) g11 ?_
  refine aw_callS (stk := [.ref (hR h a0 10), .ref a0]) [.int (hI h (hR h a0 13) x1.toNatClampNeg), .int (hI h (hR h a0 14) x1.toNatClampNeg), .int (hI h (hR h a0 15) x1.toNatClampNeg)] 26 dX7_leastWithout_23 rfl mv_X7_91 ⟨by decide, by decide⟩ rfl rfl (by simp [Value.category]) (by decide) H ?_
  rintro _ h1 ⟨r1, rfl, H⟩
  obtain ⟨g12, H⟩ := H
  refine aw_callV (stk := []) (ci := 7) [.ref (hR h a0 10), .int r1] 29 dX7_leastWithout_26 rfl mv_X7_172 ⟨by decide, by decide⟩ g12 (by intro r hr; cases hr; rfl) rfl rfl (by simp [Value.category]) (by decide) H ?_
  rintro _ h2 ⟨rfl, H⟩
  refine aw_aload_n 30 dX7_leastWithout_29 rfl rfl ?_
  obtain ⟨g13, H⟩ := H
  obtain ⟨g14, H⟩ := H
  refine aw_getR 33 dX7_leastWithout_30 rfl fl_X7_31 ir_7_10 g13 rfl g14 ?_
  refine aw_iconst (v := 0) 34 dX7_leastWithout_33 rfl (by decide) ?_
  obtain ⟨g15, H⟩ := H
  obtain ⟨g16, H⟩ := H
  refine aw_iald 35 dX7_leastWithout_34 rfl (Or.inl (shp g15)) g16 ?_
  exact aw_ireturn dX7_leastWithout_35 rfl (by decide) (by decide) ⟨_, rfl, H⟩
theorem eX7_leastWithout {w : Wd} {Q : Int32 → Hp → Prop} {h : Hp} {a0 : Nat} {x1 : Int32} (H : AW w mX7_leastWithout 0 0 (rI Q) 0 0 0 [some (.ref a0), some (.int x1)] [] h) : AC w mX7_leastWithout 0 0 (rI Q) [.ref a0, .int x1] h := AC.ofL (by decide) (by simp [enl, Value.category]) (by simp [leL, enl, Value.category]) H
set_option maxHeartbeats 4000000 in
set_option maxRecDepth 100000 in
theorem sX9_feed_0 {w : Wd} {Q : Int32 → Hp → Prop} {h : Hp} {a0 : Nat} {x1 : Int32} {x2 : Int32} {x3 : Int32} {x4 : Int32} {x5 : Int32} (H : (hs h a0).1 = 29 ∧ hR h a0 0 ≠ 0 ∧ (hs h (hR h a0 0)).1 = 26 ∧ (((hI h (hR h a0 0) 1) ≤ 1580 → AC w mX6_append 0 0 (rV fun h1 => (hs h1 a0).1 = 29 ∧ hR h1 a0 0 ≠ 0 ∧ (hs h1 (hR h1 a0 0)).1 = 26 ∧ AC w mX6_append 0 0 (rV fun h2 => (hs h2 a0).1 = 29 ∧ hR h2 a0 0 ≠ 0 ∧ (hs h2 (hR h2 a0 0)).1 = 26 ∧ AC w mX6_append 0 0 (rV fun h3 => (hs h3 a0).1 = 29 ∧ hR h3 a0 0 ≠ 0 ∧ (hs h3 (hR h3 a0 0)).1 = 26 ∧ AC w mX6_append 0 0 (rV fun h4 => (hs h4 a0).1 = 29 ∧ hR h4 a0 0 ≠ 0 ∧ (hs h4 (hR h4 a0 0)).1 = 26 ∧ AC w mX6_append 0 0 (rV fun h5 => (hs h5 a0).1 = 29 ∧ hR h5 a0 0 ≠ 0 ∧ (hs h5 (hR h5 a0 0)).1 = 26 ∧ Q (hI h5 (hR h5 a0 0) 1) h5) [.ref (hR h4 a0 0), .int x5] h4) [.ref (hR h3 a0 0), .int x4] h3) [.ref (hR h2 a0 0), .int x3] h2) [.ref (hR h1 a0 0), .int x2] h1) [.ref (hR h a0 0), .int x1] h) ∧ (¬ (hI h (hR h a0 0) 1) ≤ 1580 → Q (-100004) h))) : AW w mX9_feed 0 0 (rI Q) 0 0 0 [some (.ref a0), some (.int x1), some (.int x2), some (.int x3), some (.int x4), some (.int x5)] [] h := by
  refine aw_aload_n 1 dX9_feed_0 rfl rfl ?_
  obtain ⟨g1, H⟩ := H
  obtain ⟨g2, H⟩ := H
  refine aw_getR 4 dX9_feed_1 rfl fl_X9_12 ir_9_0 g1 rfl g2 ?_
  obtain ⟨g3, H⟩ := H
  refine aw_getI 7 dX9_feed_4 rfl fl_X9_92 (by decide) g3 ?_
  refine aw_sipush (v := 1580) 10 dX9_feed_7 rfl (by decide) ?_
  refine aw_icmp_le 16 13 dX9_feed_10 rfl (by decide) (fun c4 => ?_) (fun c4 => ?_)
  · replace H := H.1 c4
    refine aw_aload_n 17 dX9_feed_16 rfl rfl ?_
    refine aw_getR 20 dX9_feed_17 rfl fl_X9_12 ir_9_0 g1 rfl g2 ?_
    refine aw_iload_n 21 dX9_feed_20 rfl rfl ?_
    refine aw_callV (stk := []) (ci := 6) [.int x1] 24 dX9_feed_21 rfl mv_X9_96 ⟨by decide, by decide⟩ g3 (by intro r hr; cases hr; rfl) rfl rfl (by simp [Value.category]) (by decide) H ?_
    rintro _ h1 ⟨rfl, H⟩
    refine aw_aload_n 25 dX9_feed_24 rfl rfl ?_
    obtain ⟨g5, H⟩ := H
    obtain ⟨g6, H⟩ := H
    refine aw_getR 28 dX9_feed_25 rfl fl_X9_12 ir_9_0 g5 rfl g6 ?_
    refine aw_iload_n 29 dX9_feed_28 rfl rfl ?_
    obtain ⟨g7, H⟩ := H
    refine aw_callV (stk := []) (ci := 6) [.int x2] 32 dX9_feed_29 rfl mv_X9_96 ⟨by decide, by decide⟩ g7 (by intro r hr; cases hr; rfl) rfl rfl (by simp [Value.category]) (by decide) H ?_
    rintro _ h2 ⟨rfl, H⟩
    refine aw_aload_n 33 dX9_feed_32 rfl rfl ?_
    obtain ⟨g8, H⟩ := H
    obtain ⟨g9, H⟩ := H
    refine aw_getR 36 dX9_feed_33 rfl fl_X9_12 ir_9_0 g8 rfl g9 ?_
    refine aw_iload_n 37 dX9_feed_36 rfl rfl ?_
    obtain ⟨g10, H⟩ := H
    refine aw_callV (stk := []) (ci := 6) [.int x3] 40 dX9_feed_37 rfl mv_X9_96 ⟨by decide, by decide⟩ g10 (by intro r hr; cases hr; rfl) rfl rfl (by simp [Value.category]) (by decide) H ?_
    rintro _ h3 ⟨rfl, H⟩
    refine aw_aload_n 41 dX9_feed_40 rfl rfl ?_
    obtain ⟨g11, H⟩ := H
    obtain ⟨g12, H⟩ := H
    refine aw_getR 44 dX9_feed_41 rfl fl_X9_12 ir_9_0 g11 rfl g12 ?_
    refine aw_iload 46 dX9_feed_44 rfl rfl ?_
    obtain ⟨g13, H⟩ := H
    refine aw_callV (stk := []) (ci := 6) [.int x4] 49 dX9_feed_46 rfl mv_X9_96 ⟨by decide, by decide⟩ g13 (by intro r hr; cases hr; rfl) rfl rfl (by simp [Value.category]) (by decide) H ?_
    rintro _ h4 ⟨rfl, H⟩
    refine aw_aload_n 50 dX9_feed_49 rfl rfl ?_
    obtain ⟨g14, H⟩ := H
    obtain ⟨g15, H⟩ := H
    refine aw_getR 53 dX9_feed_50 rfl fl_X9_12 ir_9_0 g14 rfl g15 ?_
    refine aw_iload 55 dX9_feed_53 rfl rfl ?_
    obtain ⟨g16, H⟩ := H
    refine aw_callV (stk := []) (ci := 6) [.int x5] 58 dX9_feed_55 rfl mv_X9_96 ⟨by decide, by decide⟩ g16 (by intro r hr; cases hr; rfl) rfl rfl (by simp [Value.category]) (by decide) H ?_
    rintro _ h5 ⟨rfl, H⟩
    refine aw_aload_n 59 dX9_feed_58 rfl rfl ?_
    obtain ⟨g17, H⟩ := H
    obtain ⟨g18, H⟩ := H
    refine aw_getR 62 dX9_feed_59 rfl fl_X9_12 ir_9_0 g17 rfl g18 ?_
    obtain ⟨g19, H⟩ := H
    refine aw_getI 65 dX9_feed_62 rfl fl_X9_92 (by decide) g19 ?_
    exact aw_ireturn dX9_feed_65 rfl (by decide) (by decide) ⟨_, rfl, H⟩
  · replace H := H.2 c4
    refine aw_ldc 15 dX9_feed_13 rfl kc_X9_95 ?_
    exact aw_ireturn dX9_feed_15 rfl (by decide) (by decide) ⟨_, rfl, H⟩
theorem eX9_feed {w : Wd} {Q : Int32 → Hp → Prop} {h : Hp} {a0 : Nat} {x1 : Int32} {x2 : Int32} {x3 : Int32} {x4 : Int32} {x5 : Int32} (H : AW w mX9_feed 0 0 (rI Q) 0 0 0 [some (.ref a0), some (.int x1), some (.int x2), some (.int x3), some (.int x4), some (.int x5)] [] h) : AC w mX9_feed 0 0 (rI Q) [.ref a0, .int x1, .int x2, .int x3, .int x4, .int x5] h := AC.ofL (by decide) (by simp [enl, Value.category]) (by simp [leL, enl, Value.category]) H
set_option maxHeartbeats 4000000 in
set_option maxRecDepth 100000 in
theorem sX9_cut_0 {w : Wd} {Q : Int32 → Hp → Prop} {h : Hp} {a0 : Nat} {x1 : Int32} (H : ((x1 < 0 → Q (-100002) h) ∧ (¬ x1 < 0 → (hs h a0).1 = 29 ∧ hR h a0 0 ≠ 0 ∧ (hs h (hR h a0 0)).1 = 26 ∧ ((x1 ≤ (hI h (hR h a0 0) 1) → ∀ h1, h1 = sI h (hR h a0 0) 1 x1 → Q ((hI h (hR h a0 0) 1) - x1) h1) ∧ (¬ x1 ≤ (hI h (hR h a0 0) 1) → Q (-100002) h))))) : AW w mX9_cut 0 0 (rI Q) 0 0 0 [some (.ref a0), some (.int x1), none] [] h := by
  refine aw_iload_n 1 dX9_cut_0 rfl rfl ?_
  refine aw_if_lt 15 4 dX9_cut_1 rfl (by decide) (fun c1 => ?_) (fun c1 => ?_)
  · replace H := H.1 c1
    refine aw_ldc 17 dX9_cut_15 rfl kc_X9_99 ?_
    exact aw_ireturn dX9_cut_17 rfl (by decide) (by decide) ⟨_, rfl, H⟩
  · replace H := H.2 c1
    refine aw_iload_n 5 dX9_cut_4 rfl rfl ?_
    refine aw_aload_n 6 dX9_cut_5 rfl rfl ?_
    obtain ⟨g2, H⟩ := H
    obtain ⟨g3, H⟩ := H
    refine aw_getR 9 dX9_cut_6 rfl fl_X9_12 ir_9_0 g2 rfl g3 ?_
    obtain ⟨g4, H⟩ := H
    refine aw_getI 12 dX9_cut_9 rfl fl_X9_92 (by decide) g4 ?_
    refine aw_icmp_le 18 15 dX9_cut_12 rfl (by decide) (fun c5 => ?_) (fun c5 => ?_)
    · replace H := H.1 c5
      refine aw_aload_n 19 dX9_cut_18 rfl rfl ?_
      refine aw_getR 22 dX9_cut_19 rfl fl_X9_12 ir_9_0 g2 rfl g3 ?_
      refine aw_getI 25 dX9_cut_22 rfl fl_X9_92 (by decide) g4 ?_
      refine aw_iload_n 26 dX9_cut_25 rfl rfl ?_
      refine aw_isub 27 dX9_cut_26 rfl ?_
      refine aw_istore_n (loc' := [some (.ref a0), some (.int x1), some (.int ((hI h (hR h a0 0) 1) - x1))]) 28 dX9_cut_27 rfl (by decide) rfl ?_
      refine aw_aload_n 29 dX9_cut_28 rfl rfl ?_
      refine aw_getR 32 dX9_cut_29 rfl fl_X9_12 ir_9_0 g2 rfl g3 ?_
      refine aw_iload_n 33 dX9_cut_32 rfl rfl ?_
      refine aw_putI 36 dX9_cut_33 rfl fl_X9_92 (by decide) g4 nf_6_1 ?_
      replace H := H _ rfl
      refine aw_iload_n 37 dX9_cut_36 rfl rfl ?_
      exact aw_ireturn dX9_cut_37 rfl (by decide) (by decide) ⟨_, rfl, H⟩
    · replace H := H.2 c5
      refine aw_ldc 17 dX9_cut_15 rfl kc_X9_99 ?_
      exact aw_ireturn dX9_cut_17 rfl (by decide) (by decide) ⟨_, rfl, H⟩
theorem eX9_cut {w : Wd} {Q : Int32 → Hp → Prop} {h : Hp} {a0 : Nat} {x1 : Int32} (H : AW w mX9_cut 0 0 (rI Q) 0 0 0 [some (.ref a0), some (.int x1), none] [] h) : AC w mX9_cut 0 0 (rI Q) [.ref a0, .int x1] h := AC.ofL (by decide) (by simp [enl, Value.category]) (by simp [leL, enl, Value.category]) H
set_option maxHeartbeats 4000000 in
set_option maxRecDepth 100000 in
theorem sX9_abbreviate_0 {w : Wd} {Q : Int32 → Hp → Prop} {h : Hp} {a0 : Nat} (H : (hs h a0).1 = 29 ∧ hR h a0 2 ≠ 0 ∧ (hs h (hR h a0 2)).1 = 21 ∧ AC w mX1_readWords 0 0 (rI fun r1 h1 => ((r1 = 1 → (hs h1 a0).1 = 29 ∧ hR h1 a0 1 ≠ 0 ∧ hR h1 a0 2 ≠ 0 ∧ (hs h1 (hR h1 a0 2)).1 = 21 ∧ hR h1 (hR h1 a0 2) 2 ≠ 0 ∧ (hs h1 (hR h1 a0 1)).1 = 28 ∧ AC w mX8_enter 0 0 (rI fun r2 h2 => ((¬ r2 = (-1) → (hs h2 a0).1 = 29 ∧ hR h2 a0 0 ≠ 0 ∧ (hs h2 (hR h2 a0 0)).1 = 26 ∧ ∀ h3, h3 = sI h2 (hR h2 a0 0) 1 0 → hR h2 a0 1 ≠ 0 ∧ (hs h2 (hR h2 a0 1)).1 = 28 ∧ Q (hI h3 (hR h2 a0 1) 3) h3) ∧ (r2 = (-1) → Q (-100004) h2))) [.ref (hR h1 a0 1), .ref (hR h1 (hR h1 a0 2) 2), .int (hI h1 (hR h1 a0 2) 3)] h1) ∧ (¬ r1 = 1 → Q (-100003) h1))) [.ref (hR h a0 2)] h) : AW w mX9_abbreviate 0 0 (rI Q) 0 0 0 [some (.ref a0)] [] h := by
  refine aw_aload_n 1 dX9_abbreviate_0 rfl rfl ?_
  obtain ⟨g1, H⟩ := H
  obtain ⟨g2, H⟩ := H
  refine aw_getR 4 dX9_abbreviate_1 rfl fl_X9_30 ir_9_2 g1 rfl g2 ?_
  obtain ⟨g3, H⟩ := H
  refine aw_callV (stk := []) (ci := 1) [] 7 dX9_abbreviate_4 rfl mv_X9_100 ⟨by decide, by decide⟩ g3 (by intro r hr; cases hr; rfl) rfl rfl (by simp [Value.category]) (by decide) H ?_
  rintro _ h1 ⟨r1, rfl, H⟩
  refine aw_iconst (v := 1) 8 dX9_abbreviate_7 rfl (by decide) ?_
  refine aw_icmp_eq 14 11 dX9_abbreviate_8 rfl (by decide) (fun c4 => ?_) (fun c4 => ?_)
  · replace H := H.1 c4
    refine aw_aload_n 15 dX9_abbreviate_14 rfl rfl ?_
    obtain ⟨g5, H⟩ := H
    obtain ⟨g6, H⟩ := H
    refine aw_getR 18 dX9_abbreviate_15 rfl fl_X9_21 ir_9_1 g5 rfl g6 ?_
    refine aw_aload_n 19 dX9_abbreviate_18 rfl rfl ?_
    obtain ⟨g7, H⟩ := H
    refine aw_getR 22 dX9_abbreviate_19 rfl fl_X9_30 ir_9_2 g5 rfl g7 ?_
    obtain ⟨g8, H⟩ := H
    obtain ⟨g9, H⟩ := H
    refine aw_getR 25 dX9_abbreviate_22 rfl fl_X9_105 ir_1_2 g8 rfl g9 ?_
    refine aw_aload_n 26 dX9_abbreviate_25 rfl rfl ?_
    refine aw_getR 29 dX9_abbreviate_26 rfl fl_X9_30 ir_9_2 g5 rfl g7 ?_
    refine aw_getI 32 dX9_abbreviate_29 rfl fl_X9_109 (by decide) g8 ?_
    obtain ⟨g10, H⟩ := H
    refine aw_callV (stk := []) (ci := 8) [.ref (hR h1 (hR h1 a0 2) 2), .int (hI h1 (hR h1 a0 2) 3)] 35 dX9_abbreviate_32 rfl mv_X9_112 ⟨by decide, by decide⟩ g10 (by intro r hr; cases hr; rfl) rfl rfl (by simp [Value.category]) (by decide) H ?_
    rintro _ h2 ⟨r2, rfl, H⟩
    refine aw_iconst (v := (-1)) 36 dX9_abbreviate_35 rfl (by decide) ?_
    refine aw_icmp_ne 42 39 dX9_abbreviate_36 rfl (by decide) (fun c11 => ?_) (fun c11 => ?_)
    · replace H := H.1 c11
      refine aw_aload_n 43 dX9_abbreviate_42 rfl rfl ?_
      obtain ⟨g12, H⟩ := H
      obtain ⟨g13, H⟩ := H
      refine aw_getR 46 dX9_abbreviate_43 rfl fl_X9_12 ir_9_0 g12 rfl g13 ?_
      refine aw_iconst (v := 0) 47 dX9_abbreviate_46 rfl (by decide) ?_
      obtain ⟨g14, H⟩ := H
      refine aw_putI 50 dX9_abbreviate_47 rfl fl_X9_92 (by decide) g14 nf_6_1 ?_
      replace H := H _ rfl
      refine aw_aload_n 51 dX9_abbreviate_50 rfl rfl ?_
      obtain ⟨g15, H⟩ := H
      refine aw_getR 54 dX9_abbreviate_51 rfl fl_X9_21 ir_9_1 g12 rfl g15 ?_
      obtain ⟨g16, H⟩ := H
      refine aw_getI 57 dX9_abbreviate_54 rfl fl_X9_116 (by decide) g16 ?_
      exact aw_ireturn dX9_abbreviate_57 rfl (by decide) (by decide) ⟨_, rfl, H⟩
    · replace H := H.2 c11
      refine aw_ldc 41 dX9_abbreviate_39 rfl kc_X9_95 ?_
      exact aw_ireturn dX9_abbreviate_41 rfl (by decide) (by decide) ⟨_, rfl, H⟩
  · replace H := H.2 c4
    refine aw_ldc 13 dX9_abbreviate_11 rfl kc_X9_104 ?_
    exact aw_ireturn dX9_abbreviate_13 rfl (by decide) (by decide) ⟨_, rfl, H⟩
theorem eX9_abbreviate {w : Wd} {Q : Int32 → Hp → Prop} {h : Hp} {a0 : Nat} (H : AW w mX9_abbreviate 0 0 (rI Q) 0 0 0 [some (.ref a0)] [] h) : AC w mX9_abbreviate 0 0 (rI Q) [.ref a0] h := AC.ofL (by decide) (by simp [enl, Value.category]) (by simp [leL, enl, Value.category]) H
set_option maxHeartbeats 4000000 in
set_option maxRecDepth 100000 in
theorem sX9_take_0 {w : Wd} {Q : Int32 → Hp → Prop} {h : Hp} {a0 : Nat} {x1 : Int32} (H : (hs h a0).1 = 29 ∧ AC w mX9_isBook 0 0 (rI fun r1 h1 => ((¬ r1 = 0 → (hs h1 a0).1 = 29 ∧ hR h1 a0 2 ≠ 0 ∧ hR h1 a0 4 ≠ 0 ∧ (hs h1 (hR h1 a0 2)).1 = 21 ∧ AC w mX1_fill 0 0 (rI fun r2 h2 => ((¬ r2 = 0 → (hs h2 a0).1 = 29 ∧ hR h2 a0 3 ≠ 0 ∧ (hs h2 (hR h2 a0 3)).1 = 9 ∧ vp_in x1 (hs h2 (hR h2 a0 3)).2 ∧ hR h2 (hR h2 a0 3) x1.toNatClampNeg ≠ 0 ∧ hR h2 a0 4 ≠ 0 ∧ (hs h2 (hR h2 a0 4)).1 = 20 ∧ ∀ h3, h3 = sR h2 (hR h2 a0 3) x1.toNatClampNeg (hR h2 a0 4) → ∀ h4, h4 = sR h3 a0 4 (hR h2 (hR h2 a0 3) x1.toNatClampNeg) → hR h4 a0 0 ≠ 0 ∧ (hs h2 (hR h4 a0 0)).1 = 26 ∧ ∀ h5, h5 = sI h4 (hR h4 a0 0) 1 0 → hR h4 a0 5 ≠ 0 ∧ (hs h2 (hR h4 a0 5)).1 = 23 ∧ AC w mX3_forgetAll 0 0 (rV fun h6 => (hs h6 a0).1 = 29 ∧ hR h6 a0 6 ≠ 0 ∧ hR h6 a0 3 ≠ 0 ∧ (hs h6 (hR h6 a0 3)).1 = 9 ∧ vp_in 0 (hs h6 (hR h6 a0 3)).2 ∧ hR h6 (hR h6 a0 3) (0 : Int32).toNatClampNeg ≠ 0 ∧ (hs h6 (hR h6 (hR h6 a0 3) (0 : Int32).toNatClampNeg)).1 = 20 ∧ hR h6 (hR h6 (hR h6 a0 3) (0 : Int32).toNatClampNeg) 0 ≠ 0 ∧ (hs h6 (hR h6 (hR h6 (hR h6 a0 3) (0 : Int32).toNatClampNeg) 0)).1 = 28 ∧ vp_in 1 (hs h6 (hR h6 a0 3)).2 ∧ hR h6 (hR h6 a0 3) (1 : Int32).toNatClampNeg ≠ 0 ∧ (hs h6 (hR h6 (hR h6 a0 3) (1 : Int32).toNatClampNeg)).1 = 20 ∧ hR h6 (hR h6 (hR h6 a0 3) (1 : Int32).toNatClampNeg) 0 ≠ 0 ∧ (hs h6 (hR h6 (hR h6 (hR h6 a0 3) (1 : Int32).toNatClampNeg) 0)).1 = 28 ∧ (hs h6 (hR h6 a0 6)).1 = 24 ∧ AC w mX4_spread 0 0 (rV fun h7 => (hs h7 a0).1 = 29 ∧ ∀ h8, h8 = sI h7 a0 11 1 → hR h7 a0 3 ≠ 0 ∧ (hs h7 (hR h7 a0 3)).1 = 9 ∧ vp_in x1 (hs h7 (hR h7 a0 3)).2 ∧ hR h7 (hR h7 a0 3) x1.toNatClampNeg ≠ 0 ∧ (hs h7 (hR h7 (hR h7 a0 3) x1.toNatClampNeg)).1 = 20 ∧ Q (hI h8 (hR h7 (hR h7 a0 3) x1.toNatClampNeg) 5) h8) [.ref (hR h6 a0 6), .int (hI h6 (hR h6 (hR h6 (hR h6 a0 3) (0 : Int32).toNatClampNeg) 0) 3), .int (hI h6 (hR h6 (hR h6 (hR h6 a0 3) (1 : Int32).toNatClampNeg) 0) 3)] h6) [.ref (hR h4 a0 5)] h5) ∧ (r2 = 0 → Q (-100004) h2))) [.ref (hR h1 a0 2), .ref (hR h1 a0 4)] h1) ∧ (r1 = 0 → Q (-100001) h1))) [.ref a0, .int x1] h) : AW w mX9_take 0 0 (rI Q) 0 0 0 [some (.ref a0), some (.int x1), none] [] h := by
  refine aw_aload_n 1 dX9_take_0 rfl rfl ?_
  refine aw_iload_n 2 dX9_take_1 rfl rfl ?_
  obtain ⟨g1, H⟩ := H
  refine aw_callV (stk := []) (ci := 9) [.int x1] 5 dX9_take_2 rfl mv_X9_119 ⟨by decide, by decide⟩ g1 (by intro r hr; cases hr; rfl) rfl rfl (by simp [Value.category]) (by decide) H ?_
  rintro _ h1 ⟨r1, rfl, H⟩
  refine aw_if_ne 11 8 dX9_take_5 rfl (by decide) (fun c2 => ?_) (fun c2 => ?_)
  · replace H := H.1 c2
    refine aw_aload_n 12 dX9_take_11 rfl rfl ?_
    obtain ⟨g3, H⟩ := H
    obtain ⟨g4, H⟩ := H
    refine aw_getR 15 dX9_take_12 rfl fl_X9_30 ir_9_2 g3 rfl g4 ?_
    refine aw_aload_n 16 dX9_take_15 rfl rfl ?_
    obtain ⟨g5, H⟩ := H
    refine aw_getR 19 dX9_take_16 rfl fl_X9_41 ir_9_4 g3 rfl g5 ?_
    obtain ⟨g6, H⟩ := H
    refine aw_callV (stk := []) (ci := 1) [.ref (hR h1 a0 4)] 22 dX9_take_19 rfl mv_X9_124 ⟨by decide, by decide⟩ g6 (by intro r hr; cases hr; rfl) rfl rfl (by simp [Value.category]) (by decide) H ?_
    rintro _ h2 ⟨r2, rfl, H⟩
    refine aw_if_ne 28 25 dX9_take_22 rfl (by decide) (fun c7 => ?_) (fun c7 => ?_)
    · replace H := H.1 c7
      refine aw_aload_n 29 dX9_take_28 rfl rfl ?_
      obtain ⟨g8, H⟩ := H
      obtain ⟨g9, H⟩ := H
      refine aw_getR 32 dX9_take_29 rfl fl_X9_37 ir_9_3 g8 rfl g9 ?_
      refine aw_iload_n 33 dX9_take_32 rfl rfl ?_
      obtain ⟨g10, H⟩ := H
      obtain ⟨g11, H⟩ := H
      obtain ⟨g12, H⟩ := H
      refine aw_aald 34 dX9_take_33 rfl (shp g10) (by decide) g11 rfl g12 ?_
      refine aw_astore_n (loc' := [some (.ref a0), some (.int x1), some (.ref (hR h2 (hR h2 a0 3) x1.toNatClampNeg))]) 35 dX9_take_34 rfl (by decide) rfl ?_
      refine aw_aload_n 36 dX9_take_35 rfl rfl ?_
      refine aw_getR 39 dX9_take_36 rfl fl_X9_37 ir_9_3 g8 rfl g9 ?_
      refine aw_iload_n 40 dX9_take_39 rfl rfl ?_
      refine aw_aload_n 41 dX9_take_40 rfl rfl ?_
      obtain ⟨g13, H⟩ := H
      refine aw_getR 44 dX9_take_41 rfl fl_X9_41 ir_9_4 g8 rfl g13 ?_
      obtain ⟨g14, H⟩ := H
      refine aw_aast (ci := 0) 45 dX9_take_44 rfl (shp g10) (by decide) g14 (by intro r hr; cases hr; rfl) g11 ?_
      replace H := H _ rfl
      refine aw_aload_n 46 dX9_take_45 rfl rfl ?_
      refine aw_aload_n 47 dX9_take_46 rfl rfl ?_
      refine aw_putR 50 dX9_take_47 rfl fl_X9_41 ir2_9_4 g12 g8 nf_9_4 ?_
      replace H := H _ rfl
      refine aw_aload_n 51 dX9_take_50 rfl rfl ?_
      obtain ⟨g15, H⟩ := H
      refine aw_getR 54 dX9_take_51 rfl fl_X9_12 ir_9_0 g8 rfl g15 ?_
      refine aw_iconst (v := 0) 55 dX9_take_54 rfl (by decide) ?_
      obtain ⟨g16, H⟩ := H
      refine aw_putI 58 dX9_take_55 rfl fl_X9_92 (by decide) g16 nf_6_1 ?_
      replace H := H _ rfl
      refine aw_aload_n 59 dX9_take_58 rfl rfl ?_
      obtain ⟨g17, H⟩ := H
      refine aw_getR 62 dX9_take_59 rfl fl_X9_48 ir_9_5 g8 rfl g17 ?_
      obtain ⟨g18, H⟩ := H
      refine aw_callV (stk := []) (ci := 3) [] 65 dX9_take_62 rfl mv_X9_128 ⟨by decide, by decide⟩ g18 (by intro r hr; cases hr; rfl) rfl rfl (by simp [Value.category]) (by decide) H ?_
      rintro _ h6 ⟨rfl, H⟩
      refine aw_aload_n 66 dX9_take_65 rfl rfl ?_
      obtain ⟨g19, H⟩ := H
      obtain ⟨g20, H⟩ := H
      refine aw_getR 69 dX9_take_66 rfl fl_X9_55 ir_9_6 g19 rfl g20 ?_
      refine aw_aload_n 70 dX9_take_69 rfl rfl ?_
      obtain ⟨g21, H⟩ := H
      refine aw_getR 73 dX9_take_70 rfl fl_X9_37 ir_9_3 g19 rfl g21 ?_
      refine aw_iconst (v := 0) 74 dX9_take_73 rfl (by decide) ?_
      obtain ⟨g22, H⟩ := H
      obtain ⟨g23, H⟩ := H
      obtain ⟨g24, H⟩ := H
      refine aw_aald 75 dX9_take_74 rfl (shp g22) (by decide) g23 rfl g24 ?_
      obtain ⟨g25, H⟩ := H
      obtain ⟨g26, H⟩ := H
      refine aw_getR 78 dX9_take_75 rfl fl_X9_131 ir_0_0 g25 rfl g26 ?_
      obtain ⟨g27, H⟩ := H
      refine aw_getI 81 dX9_take_78 rfl fl_X9_116 (by decide) g27 ?_
      refine aw_aload_n 82 dX9_take_81 rfl rfl ?_
      refine aw_getR 85 dX9_take_82 rfl fl_X9_37 ir_9_3 g19 rfl g21 ?_
      refine aw_iconst (v := 1) 86 dX9_take_85 rfl (by decide) ?_
      obtain ⟨g28, H⟩ := H
      obtain ⟨g29, H⟩ := H
      refine aw_aald 87 dX9_take_86 rfl (shp g22) (by decide) g28 rfl g29 ?_
      obtain ⟨g30, H⟩ := H
      obtain ⟨g31, H⟩ := H
      refine aw_getR 90 dX9_take_87 rfl fl_X9_131 ir_0_0 g30 rfl g31 ?_
      obtain ⟨g32, H⟩ := H
      refine aw_getI 93 dX9_take_90 rfl fl_X9_116 (by decide) g32 ?_
      obtain ⟨g33, H⟩ := H
      refine aw_callV (stk := []) (ci := 4) [.int (hI h6 (hR h6 (hR h6 (hR h6 a0 3) (0 : Int32).toNatClampNeg) 0) 3), .int (hI h6 (hR h6 (hR h6 (hR h6 a0 3) (1 : Int32).toNatClampNeg) 0) 3)] 96 dX9_take_93 rfl mv_X9_134 ⟨by decide, by decide⟩ g33 (by intro r hr; cases hr; rfl) rfl rfl (by simp [Value.category]) (by decide) H ?_
      rintro _ h7 ⟨rfl, H⟩
      refine aw_aload_n 97 dX9_take_96 rfl rfl ?_
      refine aw_iconst (v := 1) 98 dX9_take_97 rfl (by decide) ?_
      obtain ⟨g34, H⟩ := H
      refine aw_putZ 101 dX9_take_98 rfl fl_X9_87 (by decide) (by decide) g34 nf_9_11 ?_
      replace H := H _ rfl
      refine aw_aload_n 102 dX9_take_101 rfl rfl ?_
      obtain ⟨g35, H⟩ := H
      refine aw_getR 105 dX9_take_102 rfl fl_X9_37 ir_9_3 g34 rfl g35 ?_
      refine aw_iload_n 106 dX9_take_105 rfl rfl ?_
      obtain ⟨g36, H⟩ := H
      obtain ⟨g37, H⟩ := H
      obtain ⟨g38, H⟩ := H
      refine aw_aald 107 dX9_take_106 rfl (shp g36) (by decide) g37 rfl g38 ?_
      obtain ⟨g39, H⟩ := H
      refine aw_getI 110 dX9_take_107 rfl fl_X9_138 (by decide) g39 ?_
      exact aw_ireturn dX9_take_110 rfl (by decide) (by decide) ⟨_, rfl, H⟩
    · replace H := H.2 c7
      refine aw_ldc 27 dX9_take_25 rfl kc_X9_95 ?_
      exact aw_ireturn dX9_take_27 rfl (by decide) (by decide) ⟨_, rfl, H⟩
  · replace H := H.2 c2
    refine aw_ldc 10 dX9_take_8 rfl kc_X9_123 ?_
    exact aw_ireturn dX9_take_10 rfl (by decide) (by decide) ⟨_, rfl, H⟩
theorem eX9_take {w : Wd} {Q : Int32 → Hp → Prop} {h : Hp} {a0 : Nat} {x1 : Int32} (H : AW w mX9_take 0 0 (rI Q) 0 0 0 [some (.ref a0), some (.int x1), none] [] h) : AC w mX9_take 0 0 (rI Q) [.ref a0, .int x1] h := AC.ofL (by decide) (by simp [enl, Value.category]) (by simp [leL, enl, Value.category]) H
set_option maxHeartbeats 4000000 in
set_option maxRecDepth 100000 in
theorem sX9_count_0 {w : Wd} {Q : Int32 → Hp → Prop} {h : Hp} {a0 : Nat} {x1 : Int32} {x2 : Int32} (H : (hs h a0).1 = 29 ∧ AC w mX9_isBook 0 0 (rI fun r1 h1 => ((¬ r1 = 0 → (((x2.toInt < 0 ∨ 4 < x2.toInt) → Q (-100002) h1) ∧ (x2.toInt = 0 → (hs h1 a0).1 = 29 ∧ hR h1 a0 3 ≠ 0 ∧ (hs h1 (hR h1 a0 3)).1 = 9 ∧ vp_in x1 (hs h1 (hR h1 a0 3)).2 ∧ hR h1 (hR h1 a0 3) x1.toNatClampNeg ≠ 0 ∧ (hs h1 (hR h1 (hR h1 a0 3) x1.toNatClampNeg)).1 = 20 ∧ Q (hI h1 (hR h1 (hR h1 a0 3) x1.toNatClampNeg) 5) h1) ∧ (x2.toInt = 1 → (hs h1 a0).1 = 29 ∧ hR h1 a0 3 ≠ 0 ∧ (hs h1 (hR h1 a0 3)).1 = 9 ∧ vp_in x1 (hs h1 (hR h1 a0 3)).2 ∧ hR h1 (hR h1 a0 3) x1.toNatClampNeg ≠ 0 ∧ (hs h1 (hR h1 (hR h1 a0 3) x1.toNatClampNeg)).1 = 20 ∧ Q (hI h1 (hR h1 (hR h1 a0 3) x1.toNatClampNeg) 6) h1) ∧ (x2.toInt = 2 → (hs h1 a0).1 = 29 ∧ hR h1 a0 3 ≠ 0 ∧ (hs h1 (hR h1 a0 3)).1 = 9 ∧ vp_in x1 (hs h1 (hR h1 a0 3)).2 ∧ hR h1 (hR h1 a0 3) x1.toNatClampNeg ≠ 0 ∧ (hs h1 (hR h1 (hR h1 a0 3) x1.toNatClampNeg)).1 = 20 ∧ hR h1 (hR h1 (hR h1 a0 3) x1.toNatClampNeg) 0 ≠ 0 ∧ (hs h1 (hR h1 (hR h1 (hR h1 a0 3) x1.toNatClampNeg) 0)).1 = 28 ∧ Q (hI h1 (hR h1 (hR h1 (hR h1 a0 3) x1.toNatClampNeg) 0) 3) h1) ∧ (x2.toInt = 3 → (hs h1 a0).1 = 29 ∧ hR h1 a0 3 ≠ 0 ∧ (hs h1 (hR h1 a0 3)).1 = 9 ∧ vp_in x1 (hs h1 (hR h1 a0 3)).2 ∧ hR h1 (hR h1 a0 3) x1.toNatClampNeg ≠ 0 ∧ (hs h1 (hR h1 (hR h1 a0 3) x1.toNatClampNeg)).1 = 20 ∧ AC w mX0_wordsOf 0 0 (rI fun r2 h2 => Q r2 h2) [.ref (hR h1 (hR h1 a0 3) x1.toNatClampNeg), .int 0, .int (hI h1 (hR h1 (hR h1 a0 3) x1.toNatClampNeg) 5)] h1) ∧ (x2.toInt = 4 → (hs h1 a0).1 = 29 ∧ hR h1 a0 3 ≠ 0 ∧ (hs h1 (hR h1 a0 3)).1 = 9 ∧ vp_in x1 (hs h1 (hR h1 a0 3)).2 ∧ hR h1 (hR h1 a0 3) x1.toNatClampNeg ≠ 0 ∧ (hs h1 (hR h1 (hR h1 a0 3) x1.toNatClampNeg)).1 = 20 ∧ AC w mX0_lengthOf 0 0 (rI fun r3 h3 => Q r3 h3) [.ref (hR h1 (hR h1 a0 3) x1.toNatClampNeg), .int 0, .int (hI h1 (hR h1 (hR h1 a0 3) x1.toNatClampNeg) 5)] h1))) ∧ (r1 = 0 → Q (-100001) h1))) [.ref a0, .int x1] h) : AW w mX9_count 0 0 (rI Q) 0 0 0 [some (.ref a0), some (.int x1), some (.int x2)] [] h := by
  refine aw_aload_n 1 dX9_count_0 rfl rfl ?_
  refine aw_iload_n 2 dX9_count_1 rfl rfl ?_
  obtain ⟨g1, H⟩ := H
  refine aw_callV (stk := []) (ci := 9) [.int x1] 5 dX9_count_2 rfl mv_X9_119 ⟨by decide, by decide⟩ g1 (by intro r hr; cases hr; rfl) rfl rfl (by simp [Value.category]) (by decide) H ?_
  rintro _ h1 ⟨r1, rfl, H⟩
  refine aw_if_ne 11 8 dX9_count_5 rfl (by decide) (fun c2 => ?_) (fun c2 => ?_)
  · replace H := H.1 c2
    refine aw_iload_n 12 dX9_count_11 rfl rfl ?_
    by_cases c3 : (x2.toInt < 0 ∨ 4 < x2.toInt)
    · refine aw_tableOut 121 dX9_count_12 c3 (by decide) ?_
      replace H := H.1 c3
      refine aw_ldc 123 dX9_count_121 rfl kc_X9_99 ?_
      exact aw_ireturn dX9_count_123 rfl (by decide) (by decide) ⟨_, rfl, H⟩
    · replace H := H.2
      have c3a : ¬ x2.toInt < 0 := fun z => c3 (Or.inl z)
      have c3b : ¬ 4 < x2.toInt := fun z => c3 (Or.inr z)
      rcases (show x2.toInt = 0 ∨ x2.toInt = 1 ∨ x2.toInt = 2 ∨ x2.toInt = 3 ∨ x2.toInt = 4 by omega) with c3e | c3e | c3e | c3e | c3e
      · refine aw_tableIn 48 dX9_count_12 c3a c3b (by rw [c3e]; rfl) (by decide) ?_
        replace H := H.1 c3e
        refine aw_aload_n 49 dX9_count_48 rfl rfl ?_
        obtain ⟨g4, H⟩ := H
        obtain ⟨g5, H⟩ := H
        refine aw_getR 52 dX9_count_49 rfl fl_X9_37 ir_9_3 g4 rfl g5 ?_
        refine aw_iload_n 53 dX9_count_52 rfl rfl ?_
        obtain ⟨g6, H⟩ := H
        obtain ⟨g7, H⟩ := H
        obtain ⟨g8, H⟩ := H
        refine aw_aald 54 dX9_count_53 rfl (shp g6) (by decide) g7 rfl g8 ?_
        obtain ⟨g9, H⟩ := H
        refine aw_getI 57 dX9_count_54 rfl fl_X9_138 (by decide) g9 ?_
        exact aw_ireturn dX9_count_57 rfl (by decide) (by decide) ⟨_, rfl, H⟩
      · refine aw_tableIn 58 dX9_count_12 c3a c3b (by rw [c3e]; rfl) (by decide) ?_
        replace H := H.2.1 c3e
        refine aw_aload_n 59 dX9_count_58 rfl rfl ?_
        obtain ⟨g10, H⟩ := H
        obtain ⟨g11, H⟩ := H
        refine aw_getR 62 dX9_count_59 rfl fl_X9_37 ir_9_3 g10 rfl g11 ?_
        refine aw_iload_n 63 dX9_count_62 rfl rfl ?_
        obtain ⟨g12, H⟩ := H
        obtain ⟨g13, H⟩ := H
        obtain ⟨g14, H⟩ := H
        refine aw_aald 64 dX9_count_63 rfl (shp g12) (by decide) g13 rfl g14 ?_
        obtain ⟨g15, H⟩ := H
        refine aw_getI 67 dX9_count_64 rfl fl_X9_141 (by decide) g15 ?_
        exact aw_ireturn dX9_count_67 rfl (by decide) (by decide) ⟨_, rfl, H⟩
      · refine aw_tableIn 68 dX9_count_12 c3a c3b (by rw [c3e]; rfl) (by decide) ?_
        replace H := H.2.2.1 c3e
        refine aw_aload_n 69 dX9_count_68 rfl rfl ?_
        obtain ⟨g16, H⟩ := H
        obtain ⟨g17, H⟩ := H
        refine aw_getR 72 dX9_count_69 rfl fl_X9_37 ir_9_3 g16 rfl g17 ?_
        refine aw_iload_n 73 dX9_count_72 rfl rfl ?_
        obtain ⟨g18, H⟩ := H
        obtain ⟨g19, H⟩ := H
        obtain ⟨g20, H⟩ := H
        refine aw_aald 74 dX9_count_73 rfl (shp g18) (by decide) g19 rfl g20 ?_
        obtain ⟨g21, H⟩ := H
        obtain ⟨g22, H⟩ := H
        refine aw_getR 77 dX9_count_74 rfl fl_X9_131 ir_0_0 g21 rfl g22 ?_
        obtain ⟨g23, H⟩ := H
        refine aw_getI 80 dX9_count_77 rfl fl_X9_116 (by decide) g23 ?_
        exact aw_ireturn dX9_count_80 rfl (by decide) (by decide) ⟨_, rfl, H⟩
      · refine aw_tableIn 81 dX9_count_12 c3a c3b (by rw [c3e]; rfl) (by decide) ?_
        replace H := H.2.2.2.1 c3e
        refine aw_aload_n 82 dX9_count_81 rfl rfl ?_
        obtain ⟨g24, H⟩ := H
        obtain ⟨g25, H⟩ := H
        refine aw_getR 85 dX9_count_82 rfl fl_X9_37 ir_9_3 g24 rfl g25 ?_
        refine aw_iload_n 86 dX9_count_85 rfl rfl ?_
        obtain ⟨g26, H⟩ := H
        obtain ⟨g27, H⟩ := H
        obtain ⟨g28, H⟩ := H
        refine aw_aald 87 dX9_count_86 rfl (shp g26) (by decide) g27 rfl g28 ?_
        refine aw_iconst (v := 0) 88 dX9_count_87 rfl (by decide) ?_
        refine aw_aload_n 89 dX9_count_88 rfl rfl ?_
        refine aw_getR 92 dX9_count_89 rfl fl_X9_37 ir_9_3 g24 rfl g25 ?_
        refine aw_iload_n 93 dX9_count_92 rfl rfl ?_
        refine aw_aald 94 dX9_count_93 rfl (shp g26) (by decide) g27 rfl g28 ?_
        obtain ⟨g29, H⟩ := H
        refine aw_getI 97 dX9_count_94 rfl fl_X9_138 (by decide) g29 ?_
        refine aw_callV (stk := []) (ci := 0) [.int 0, .int (hI h1 (hR h1 (hR h1 a0 3) x1.toNatClampNeg) 5)] 100 dX9_count_97 rfl mv_X9_144 ⟨by decide, by decide⟩ g29 (by intro r hr; cases hr; rfl) rfl rfl (by simp [Value.category]) (by decide) H ?_
        rintro _ h2 ⟨r2, rfl, H⟩
        exact aw_ireturn dX9_count_100 rfl (by decide) (by decide) ⟨_, rfl, H⟩
      · refine aw_tableIn 101 dX9_count_12 c3a c3b (by rw [c3e]; rfl) (by decide) ?_
        replace H := H.2.2.2.2 c3e
        refine aw_aload_n 102 dX9_count_101 rfl rfl ?_
        obtain ⟨g30, H⟩ := H
        obtain ⟨g31, H⟩ := H
        refine aw_getR 105 dX9_count_102 rfl fl_X9_37 ir_9_3 g30 rfl g31 ?_
        refine aw_iload_n 106 dX9_count_105 rfl rfl ?_
        obtain ⟨g32, H⟩ := H
        obtain ⟨g33, H⟩ := H
        obtain ⟨g34, H⟩ := H
        refine aw_aald 107 dX9_count_106 rfl (shp g32) (by decide) g33 rfl g34 ?_
        refine aw_iconst (v := 0) 108 dX9_count_107 rfl (by decide) ?_
        refine aw_aload_n 109 dX9_count_108 rfl rfl ?_
        refine aw_getR 112 dX9_count_109 rfl fl_X9_37 ir_9_3 g30 rfl g31 ?_
        refine aw_iload_n 113 dX9_count_112 rfl rfl ?_
        refine aw_aald 114 dX9_count_113 rfl (shp g32) (by decide) g33 rfl g34 ?_
        obtain ⟨g35, H⟩ := H
        refine aw_getI 117 dX9_count_114 rfl fl_X9_138 (by decide) g35 ?_
        refine aw_callV (stk := []) (ci := 0) [.int 0, .int (hI h1 (hR h1 (hR h1 a0 3) x1.toNatClampNeg) 5)] 120 dX9_count_117 rfl mv_X9_148 ⟨by decide, by decide⟩ g35 (by intro r hr; cases hr; rfl) rfl rfl (by simp [Value.category]) (by decide) H ?_
        rintro _ h3 ⟨r3, rfl, H⟩
        exact aw_ireturn dX9_count_120 rfl (by decide) (by decide) ⟨_, rfl, H⟩
  · replace H := H.2 c2
    refine aw_ldc 10 dX9_count_8 rfl kc_X9_123 ?_
    exact aw_ireturn dX9_count_10 rfl (by decide) (by decide) ⟨_, rfl, H⟩
theorem eX9_count {w : Wd} {Q : Int32 → Hp → Prop} {h : Hp} {a0 : Nat} {x1 : Int32} {x2 : Int32} (H : AW w mX9_count 0 0 (rI Q) 0 0 0 [some (.ref a0), some (.int x1), some (.int x2)] [] h) : AC w mX9_count 0 0 (rI Q) [.ref a0, .int x1, .int x2] h := AC.ofL (by decide) (by simp [enl, Value.category]) (by simp [leL, enl, Value.category]) H
set_option maxHeartbeats 4000000 in
set_option maxRecDepth 100000 in
theorem sX9_sentence_0 {w : Wd} {Q : Int32 → Hp → Prop} {h : Hp} {a0 : Nat} {x1 : Int32} {x2 : Int32} {x3 : Int32} (H : (hs h a0).1 = 29 ∧ AC w mX9_isSentence 0 0 (rI fun r1 h1 => ((¬ r1 = 0 → (((x3.toInt < 0 ∨ 2 < x3.toInt) → Q (-100002) h1) ∧ (x3.toInt = 0 → (hs h1 a0).1 = 29 ∧ hR h1 a0 3 ≠ 0 ∧ (hs h1 (hR h1 a0 3)).1 = 9 ∧ vp_in x1 (hs h1 (hR h1 a0 3)).2 ∧ hR h1 (hR h1 a0 3) x1.toNatClampNeg ≠ 0 ∧ (hs h1 (hR h1 (hR h1 a0 3) x1.toNatClampNeg)).1 = 20 ∧ hR h1 (hR h1 (hR h1 a0 3) x1.toNatClampNeg) 2 ≠ 0 ∧ (hs h1 (hR h1 (hR h1 (hR h1 a0 3) x1.toNatClampNeg) 2)).1 = 1 ∧ vp_in x2 (hs h1 (hR h1 (hR h1 (hR h1 a0 3) x1.toNatClampNeg) 2)).2 ∧ Q (hI h1 (hR h1 (hR h1 (hR h1 a0 3) x1.toNatClampNeg) 2) x2.toNatClampNeg) h1) ∧ (x3.toInt = 1 → (hs h1 a0).1 = 29 ∧ hR h1 a0 3 ≠ 0 ∧ (hs h1 (hR h1 a0 3)).1 = 9 ∧ vp_in x1 (hs h1 (hR h1 a0 3)).2 ∧ hR h1 (hR h1 a0 3) x1.toNatClampNeg ≠ 0 ∧ (hs h1 (hR h1 (hR h1 a0 3) x1.toNatClampNeg)).1 = 20 ∧ AC w mX0_lengthOf 0 0 (rI fun r2 h2 => Q r2 h2) [.ref (hR h1 (hR h1 a0 3) x1.toNatClampNeg), .int x2, .int 1] h1) ∧ (x3.toInt = 2 → (hs h1 a0).1 = 29 ∧ hR h1 a0 3 ≠ 0 ∧ (hs h1 (hR h1 a0 3)).1 = 9 ∧ vp_in x1 (hs h1 (hR h1 a0 3)).2 ∧ hR h1 (hR h1 a0 3) x1.toNatClampNeg ≠ 0 ∧ (hs h1 (hR h1 (hR h1 a0 3) x1.toNatClampNeg)).1 = 20 ∧ hR h1 (hR h1 (hR h1 a0 3) x1.toNatClampNeg) 3 ≠ 0 ∧ (hs h1 (hR h1 (hR h1 (hR h1 a0 3) x1.toNatClampNeg) 3)).1 = 1 ∧ vp_in x2 (hs h1 (hR h1 (hR h1 (hR h1 a0 3) x1.toNatClampNeg) 3)).2 ∧ Q (hI h1 (hR h1 (hR h1 (hR h1 a0 3) x1.toNatClampNeg) 3) x2.toNatClampNeg) h1))) ∧ (r1 = 0 → Q (-100001) h1))) [.ref a0, .int x1, .int x2] h) : AW w mX9_sentence 0 0 (rI Q) 0 0 0 [some (.ref a0), some (.int x1), some (.int x2), some (.int x3)] [] h := by
  refine aw_aload_n 1 dX9_sentence_0 rfl rfl ?_
  refine aw_iload_n 2 dX9_sentence_1 rfl rfl ?_
  refine aw_iload_n 3 dX9_sentence_2 rfl rfl ?_
  obtain ⟨g1, H⟩ := H
  refine aw_callV (stk := []) (ci := 9) [.int x1, .int x2] 6 dX9_sentence_3 rfl mv_X9_151 ⟨by decide, by decide⟩ g1 (by intro r hr; cases hr; rfl) rfl rfl (by simp [Value.category]) (by decide) H ?_
  rintro _ h1 ⟨r1, rfl, H⟩
  refine aw_if_ne 12 9 dX9_sentence_6 rfl (by decide) (fun c2 => ?_) (fun c2 => ?_)
  · replace H := H.1 c2
    refine aw_iload_n 13 dX9_sentence_12 rfl rfl ?_
    by_cases c3 : (x3.toInt < 0 ∨ 2 < x3.toInt)
    · refine aw_tableOut 76 dX9_sentence_13 c3 (by decide) ?_
      replace H := H.1 c3
      refine aw_ldc 78 dX9_sentence_76 rfl kc_X9_99 ?_
      exact aw_ireturn dX9_sentence_78 rfl (by decide) (by decide) ⟨_, rfl, H⟩
    · replace H := H.2
      have c3a : ¬ x3.toInt < 0 := fun z => c3 (Or.inl z)
      have c3b : ¬ 2 < x3.toInt := fun z => c3 (Or.inr z)
      rcases (show x3.toInt = 0 ∨ x3.toInt = 1 ∨ x3.toInt = 2 by omega) with c3e | c3e | c3e
      · refine aw_tableIn 40 dX9_sentence_13 c3a c3b (by rw [c3e]; rfl) (by decide) ?_
        replace H := H.1 c3e
        refine aw_aload_n 41 dX9_sentence_40 rfl rfl ?_
        obtain ⟨g4, H⟩ := H
        obtain ⟨g5, H⟩ := H
        refine aw_getR 44 dX9_sentence_41 rfl fl_X9_37 ir_9_3 g4 rfl g5 ?_
        refine aw_iload_n 45 dX9_sentence_44 rfl rfl ?_
        obtain ⟨g6, H⟩ := H
        obtain ⟨g7, H⟩ := H
        obtain ⟨g8, H⟩ := H
        refine aw_aald 46 dX9_sentence_45 rfl (shp g6) (by decide) g7 rfl g8 ?_
        obtain ⟨g9, H⟩ := H
        obtain ⟨g10, H⟩ := H
        refine aw_getR 49 dX9_sentence_46 rfl fl_X9_155 ir_0_2 g9 rfl g10 ?_
        refine aw_iload_n 50 dX9_sentence_49 rfl rfl ?_
        obtain ⟨g11, H⟩ := H
        obtain ⟨g12, H⟩ := H
        refine aw_iald 51 dX9_sentence_50 rfl (Or.inl (shp g11)) g12 ?_
        exact aw_ireturn dX9_sentence_51 rfl (by decide) (by decide) ⟨_, rfl, H⟩
      · refine aw_tableIn 52 dX9_sentence_13 c3a c3b (by rw [c3e]; rfl) (by decide) ?_
        replace H := H.2.1 c3e
        refine aw_aload_n 53 dX9_sentence_52 rfl rfl ?_
        obtain ⟨g13, H⟩ := H
        obtain ⟨g14, H⟩ := H
        refine aw_getR 56 dX9_sentence_53 rfl fl_X9_37 ir_9_3 g13 rfl g14 ?_
        refine aw_iload_n 57 dX9_sentence_56 rfl rfl ?_
        obtain ⟨g15, H⟩ := H
        obtain ⟨g16, H⟩ := H
        obtain ⟨g17, H⟩ := H
        refine aw_aald 58 dX9_sentence_57 rfl (shp g15) (by decide) g16 rfl g17 ?_
        refine aw_iload_n 59 dX9_sentence_58 rfl rfl ?_
        refine aw_iconst (v := 1) 60 dX9_sentence_59 rfl (by decide) ?_
        obtain ⟨g18, H⟩ := H
        refine aw_callV (stk := []) (ci := 0) [.int x2, .int 1] 63 dX9_sentence_60 rfl mv_X9_148 ⟨by decide, by decide⟩ g18 (by intro r hr; cases hr; rfl) rfl rfl (by simp [Value.category]) (by decide) H ?_
        rintro _ h2 ⟨r2, rfl, H⟩
        exact aw_ireturn dX9_sentence_63 rfl (by decide) (by decide) ⟨_, rfl, H⟩
      · refine aw_tableIn 64 dX9_sentence_13 c3a c3b (by rw [c3e]; rfl) (by decide) ?_
        replace H := H.2.2 c3e
        refine aw_aload_n 65 dX9_sentence_64 rfl rfl ?_
        obtain ⟨g19, H⟩ := H
        obtain ⟨g20, H⟩ := H
        refine aw_getR 68 dX9_sentence_65 rfl fl_X9_37 ir_9_3 g19 rfl g20 ?_
        refine aw_iload_n 69 dX9_sentence_68 rfl rfl ?_
        obtain ⟨g21, H⟩ := H
        obtain ⟨g22, H⟩ := H
        obtain ⟨g23, H⟩ := H
        refine aw_aald 70 dX9_sentence_69 rfl (shp g21) (by decide) g22 rfl g23 ?_
        obtain ⟨g24, H⟩ := H
        obtain ⟨g25, H⟩ := H
        refine aw_getR 73 dX9_sentence_70 rfl fl_X9_159 ir_0_3 g24 rfl g25 ?_
        refine aw_iload_n 74 dX9_sentence_73 rfl rfl ?_
        obtain ⟨g26, H⟩ := H
        obtain ⟨g27, H⟩ := H
        refine aw_iald 75 dX9_sentence_74 rfl (Or.inl (shp g26)) g27 ?_
        exact aw_ireturn dX9_sentence_75 rfl (by decide) (by decide) ⟨_, rfl, H⟩
  · replace H := H.2 c2
    refine aw_ldc 11 dX9_sentence_9 rfl kc_X9_123 ?_
    exact aw_ireturn dX9_sentence_11 rfl (by decide) (by decide) ⟨_, rfl, H⟩
theorem eX9_sentence {w : Wd} {Q : Int32 → Hp → Prop} {h : Hp} {a0 : Nat} {x1 : Int32} {x2 : Int32} {x3 : Int32} (H : AW w mX9_sentence 0 0 (rI Q) 0 0 0 [some (.ref a0), some (.int x1), some (.int x2), some (.int x3)] [] h) : AC w mX9_sentence 0 0 (rI Q) [.ref a0, .int x1, .int x2, .int x3] h := AC.ofL (by decide) (by simp [enl, Value.category]) (by simp [leL, enl, Value.category]) H
set_option maxHeartbeats 4000000 in
set_option maxRecDepth 100000 in
theorem sX9_word_0 {w : Wd} {Q : Int32 → Hp → Prop} {h : Hp} {a0 : Nat} {x1 : Int32} {x2 : Int32} {x3 : Int32} (H : (hs h a0).1 = 29 ∧ AC w mX9_isWord 0 0 (rI fun r1 h1 => ((¬ r1 = 0 → (hs h1 a0).1 = 29 ∧ hR h1 a0 3 ≠ 0 ∧ (hs h1 (hR h1 a0 3)).1 = 9 ∧ vp_in x1 (hs h1 (hR h1 a0 3)).2 ∧ hR h1 (hR h1 a0 3) x1.toNatClampNeg ≠ 0 ∧ (hs h1 (hR h1 (hR h1 a0 3) x1.toNatClampNeg)).1 = 20 ∧ hR h1 (hR h1 (hR h1 a0 3) x1.toNatClampNeg) 1 ≠ 0 ∧ (hs h1 (hR h1 (hR h1 (hR h1 a0 3) x1.toNatClampNeg) 1)).1 = 6 ∧ vp_in x2 (hs h1 (hR h1 (hR h1 (hR h1 a0 3) x1.toNatClampNeg) 1)).2 ∧ hR h1 (hR h1 (hR h1 (hR h1 a0 3) x1.toNatClampNeg) 1) x2.toNatClampNeg ≠ 0 ∧ (hs h1 (hR h1 (hR h1 (hR h1 (hR h1 a0 3) x1.toNatClampNeg) 1) x2.toNatClampNeg)).1 = 1 ∧ vp_in x3 (hs h1 (hR h1 (hR h1 (hR h1 (hR h1 a0 3) x1.toNatClampNeg) 1) x2.toNatClampNeg)).2 ∧ Q (hI h1 (hR h1 (hR h1 (hR h1 (hR h1 a0 3) x1.toNatClampNeg) 1) x2.toNatClampNeg) x3.toNatClampNeg) h1) ∧ (r1 = 0 → Q (-100001) h1))) [.ref a0, .int x1, .int x2, .int x3] h) : AW w mX9_word 0 0 (rI Q) 0 0 0 [some (.ref a0), some (.int x1), some (.int x2), some (.int x3)] [] h := by
  refine aw_aload_n 1 dX9_word_0 rfl rfl ?_
  refine aw_iload_n 2 dX9_word_1 rfl rfl ?_
  refine aw_iload_n 3 dX9_word_2 rfl rfl ?_
  refine aw_iload_n 4 dX9_word_3 rfl rfl ?_
  obtain ⟨g1, H⟩ := H
  refine aw_callV (stk := []) (ci := 9) [.int x1, .int x2, .int x3] 7 dX9_word_4 rfl mv_X9_162 ⟨by decide, by decide⟩ g1 (by intro r hr; cases hr; rfl) rfl rfl (by simp [Value.category]) (by decide) H ?_
  rintro _ h1 ⟨r1, rfl, H⟩
  refine aw_if_ne 13 10 dX9_word_7 rfl (by decide) (fun c2 => ?_) (fun c2 => ?_)
  · replace H := H.1 c2
    refine aw_aload_n 14 dX9_word_13 rfl rfl ?_
    obtain ⟨g3, H⟩ := H
    obtain ⟨g4, H⟩ := H
    refine aw_getR 17 dX9_word_14 rfl fl_X9_37 ir_9_3 g3 rfl g4 ?_
    refine aw_iload_n 18 dX9_word_17 rfl rfl ?_
    obtain ⟨g5, H⟩ := H
    obtain ⟨g6, H⟩ := H
    obtain ⟨g7, H⟩ := H
    refine aw_aald 19 dX9_word_18 rfl (shp g5) (by decide) g6 rfl g7 ?_
    obtain ⟨g8, H⟩ := H
    obtain ⟨g9, H⟩ := H
    refine aw_getR 22 dX9_word_19 rfl fl_X9_166 ir_0_1 g8 rfl g9 ?_
    refine aw_iload_n 23 dX9_word_22 rfl rfl ?_
    obtain ⟨g10, H⟩ := H
    obtain ⟨g11, H⟩ := H
    obtain ⟨g12, H⟩ := H
    refine aw_aald 24 dX9_word_23 rfl (shp g10) (by decide) g11 rfl g12 ?_
    refine aw_iload_n 25 dX9_word_24 rfl rfl ?_
    obtain ⟨g13, H⟩ := H
    obtain ⟨g14, H⟩ := H
    refine aw_iald 26 dX9_word_25 rfl (Or.inl (shp g13)) g14 ?_
    exact aw_ireturn dX9_word_26 rfl (by decide) (by decide) ⟨_, rfl, H⟩
  · replace H := H.2 c2
    refine aw_ldc 12 dX9_word_10 rfl kc_X9_123 ?_
    exact aw_ireturn dX9_word_12 rfl (by decide) (by decide) ⟨_, rfl, H⟩
theorem eX9_word {w : Wd} {Q : Int32 → Hp → Prop} {h : Hp} {a0 : Nat} {x1 : Int32} {x2 : Int32} {x3 : Int32} (H : AW w mX9_word 0 0 (rI Q) 0 0 0 [some (.ref a0), some (.int x1), some (.int x2), some (.int x3)] [] h) : AC w mX9_word 0 0 (rI Q) [.ref a0, .int x1, .int x2, .int x3] h := AC.ofL (by decide) (by simp [enl, Value.category]) (by simp [leL, enl, Value.category]) H
set_option maxHeartbeats 4000000 in
set_option maxRecDepth 100000 in
theorem sX9_letter_0 {w : Wd} {Q : Int32 → Hp → Prop} {h : Hp} {a0 : Nat} {x1 : Int32} {x2 : Int32} {x3 : Int32} (H : (hs h a0).1 = 29 ∧ AC w mX9_isBook 0 0 (rI fun r1 h1 => ((r1 = 0 → Q (-100001) h1) ∧ (¬ r1 = 0 → (hs h1 a0).1 = 29 ∧ AC w mX9_isKind 0 0 (rI fun r2 h2 => ((¬ r2 = 0 → (hs h2 a0).1 = 29 ∧ hR h2 a0 3 ≠ 0 ∧ (hs h2 (hR h2 a0 3)).1 = 9 ∧ vp_in x1 (hs h2 (hR h2 a0 3)).2 ∧ hR h2 (hR h2 a0 3) x1.toNatClampNeg ≠ 0 ∧ (hs h2 (hR h2 (hR h2 a0 3) x1.toNatClampNeg)).1 = 20 ∧ hR h2 (hR h2 (hR h2 a0 3) x1.toNatClampNeg) 0 ≠ 0 ∧ (hs h2 (hR h2 (hR h2 (hR h2 a0 3) x1.toNatClampNeg) 0)).1 = 28 ∧ AC w mX8_letterAt 0 0 (rI fun r3 h3 => Q r3 h3) [.ref (hR h2 (hR h2 (hR h2 a0 3) x1.toNatClampNeg) 0), .int x2, .int x3] h2) ∧ (r2 = 0 → Q (-100001) h2))) [.ref a0, .int x1, .int x2] h1))) [.ref a0, .int x1] h) : AW w mX9_letter 0 0 (rI Q) 0 0 0 [some (.ref a0), some (.int x1), some (.int x2), some (.int x3)] [] h := by
  refine aw_aload_n 1 dX9_letter_0 rfl rfl ?_
  refine aw_iload_n 2 dX9_letter_1 rfl rfl ?_
  obtain ⟨g1, H⟩ := H
  refine aw_callV (stk := []) (ci := 9) [.int x1] 5 dX9_letter_2 rfl mv_X9_119 ⟨by decide, by decide⟩ g1 (by intro r hr; cases hr; rfl) rfl rfl (by simp [Value.category]) (by decide) H ?_
  rintro _ h1 ⟨r1, rfl, H⟩
  refine aw_if_eq 17 8 dX9_letter_5 rfl (by decide) (fun c2 => ?_) (fun c2 => ?_)
  · replace H := H.1 c2
    refine aw_ldc 19 dX9_letter_17 rfl kc_X9_123 ?_
    exact aw_ireturn dX9_letter_19 rfl (by decide) (by decide) ⟨_, rfl, H⟩
  · replace H := H.2 c2
    refine aw_aload_n 9 dX9_letter_8 rfl rfl ?_
    refine aw_iload_n 10 dX9_letter_9 rfl rfl ?_
    refine aw_iload_n 11 dX9_letter_10 rfl rfl ?_
    obtain ⟨g3, H⟩ := H
    refine aw_callV (stk := []) (ci := 9) [.int x1, .int x2] 14 dX9_letter_11 rfl mv_X9_170 ⟨by decide, by decide⟩ g3 (by intro r hr; cases hr; rfl) rfl rfl (by simp [Value.category]) (by decide) H ?_
    rintro _ h2 ⟨r2, rfl, H⟩
    refine aw_if_ne 20 17 dX9_letter_14 rfl (by decide) (fun c4 => ?_) (fun c4 => ?_)
    · replace H := H.1 c4
      refine aw_aload_n 21 dX9_letter_20 rfl rfl ?_
      obtain ⟨g5, H⟩ := H
      obtain ⟨g6, H⟩ := H
      refine aw_getR 24 dX9_letter_21 rfl fl_X9_37 ir_9_3 g5 rfl g6 ?_
      refine aw_iload_n 25 dX9_letter_24 rfl rfl ?_
      obtain ⟨g7, H⟩ := H
      obtain ⟨g8, H⟩ := H
      obtain ⟨g9, H⟩ := H
      refine aw_aald 26 dX9_letter_25 rfl (shp g7) (by decide) g8 rfl g9 ?_
      obtain ⟨g10, H⟩ := H
      obtain ⟨g11, H⟩ := H
      refine aw_getR 29 dX9_letter_26 rfl fl_X9_131 ir_0_0 g10 rfl g11 ?_
      refine aw_iload_n 30 dX9_letter_29 rfl rfl ?_
      refine aw_iload_n 31 dX9_letter_30 rfl rfl ?_
      obtain ⟨g12, H⟩ := H
      refine aw_callV (stk := []) (ci := 8) [.int x2, .int x3] 34 dX9_letter_31 rfl mv_X9_173 ⟨by decide, by decide⟩ g12 (by intro r hr; cases hr; rfl) rfl rfl (by simp [Value.category]) (by decide) H ?_
      rintro _ h3 ⟨r3, rfl, H⟩
      exact aw_ireturn dX9_letter_34 rfl (by decide) (by decide) ⟨_, rfl, H⟩
    · replace H := H.2 c4
      refine aw_ldc 19 dX9_letter_17 rfl kc_X9_123 ?_
      exact aw_ireturn dX9_letter_19 rfl (by decide) (by decide) ⟨_, rfl, H⟩
theorem eX9_letter {w : Wd} {Q : Int32 → Hp → Prop} {h : Hp} {a0 : Nat} {x1 : Int32} {x2 : Int32} {x3 : Int32} (H : AW w mX9_letter 0 0 (rI Q) 0 0 0 [some (.ref a0), some (.int x1), some (.int x2), some (.int x3)] [] h) : AC w mX9_letter 0 0 (rI Q) [.ref a0, .int x1, .int x2, .int x3] h := AC.ofL (by decide) (by simp [enl, Value.category]) (by simp [leL, enl, Value.category]) H
set_option maxHeartbeats 4000000 in
set_option maxRecDepth 100000 in
theorem sX9_change_0 {w : Wd} {Q : Int32 → Hp → Prop} {h : Hp} {a0 : Nat} {x1 : Int32} {x2 : Int32} {x3 : Int32} {x4 : Int32} (H : (hs h a0).1 = 29 ∧ AC w mX9_isWord 0 0 (rI fun r1 h1 => ((r1 = 0 → Q (-100001) h1) ∧ (¬ r1 = 0 → (hs h1 a0).1 = 29 ∧ AC w mX9_isKind 0 0 (rI fun r2 h2 => ((¬ r2 = 0 → (hs h2 a0).1 = 29 ∧ hR h2 a0 3 ≠ 0 ∧ (hs h2 (hR h2 a0 3)).1 = 9 ∧ vp_in x1 (hs h2 (hR h2 a0 3)).2 ∧ hR h2 (hR h2 a0 3) x1.toNatClampNeg ≠ 0 ∧ (hs h2 (hR h2 (hR h2 a0 3) x1.toNatClampNeg)).1 = 20 ∧ hR h2 (hR h2 (hR h2 a0 3) x1.toNatClampNeg) 1 ≠ 0 ∧ (hs h2 (hR h2 (hR h2 (hR h2 a0 3) x1.toNatClampNeg) 1)).1 = 6 ∧ vp_in x2 (hs h2 (hR h2 (hR h2 (hR h2 a0 3) x1.toNatClampNeg) 1)).2 ∧ hR h2 (hR h2 (hR h2 (hR h2 a0 3) x1.toNatClampNeg) 1) x2.toNatClampNeg ≠ 0 ∧ (hs h2 (hR h2 (hR h2 (hR h2 (hR h2 a0 3) x1.toNatClampNeg) 1) x2.toNatClampNeg)).1 = 1 ∧ vp_in x3 (hs h2 (hR h2 (hR h2 (hR h2 (hR h2 a0 3) x1.toNatClampNeg) 1) x2.toNatClampNeg)).2 ∧ ∀ h3, h3 = sI h2 (hR h2 (hR h2 (hR h2 (hR h2 a0 3) x1.toNatClampNeg) 1) x2.toNatClampNeg) x3.toNatClampNeg x4 → ∀ h4, h4 = sI h3 a0 11 1 → Q (hI h2 (hR h2 (hR h2 (hR h2 (hR h2 a0 3) x1.toNatClampNeg) 1) x2.toNatClampNeg) x3.toNatClampNeg) h4) ∧ (r2 = 0 → Q (-100001) h2))) [.ref a0, .int x1, .int x4] h1))) [.ref a0, .int x1, .int x2, .int x3] h) : AW w mX9_change 0 0 (rI Q) 0 0 0 [some (.ref a0), some (.int x1), some (.int x2), some (.int x3), some (.int x4), none] [] h := by
  refine aw_aload_n 1 dX9_change_0 rfl rfl ?_
  refine aw_iload_n 2 dX9_change_1 rfl rfl ?_
  refine aw_iload_n 3 dX9_change_2 rfl rfl ?_
  refine aw_iload_n 4 dX9_change_3 rfl rfl ?_
  obtain ⟨g1, H⟩ := H
  refine aw_callV (stk := []) (ci := 9) [.int x1, .int x2, .int x3] 7 dX9_change_4 rfl mv_X9_162 ⟨by decide, by decide⟩ g1 (by intro r hr; cases hr; rfl) rfl rfl (by simp [Value.category]) (by decide) H ?_
  rintro _ h1 ⟨r1, rfl, H⟩
  refine aw_if_eq 20 10 dX9_change_7 rfl (by decide) (fun c2 => ?_) (fun c2 => ?_)
  · replace H := H.1 c2
    refine aw_ldc 22 dX9_change_20 rfl kc_X9_123 ?_
    exact aw_ireturn dX9_change_22 rfl (by decide) (by decide) ⟨_, rfl, H⟩
  · replace H := H.2 c2
    refine aw_aload_n 11 dX9_change_10 rfl rfl ?_
    refine aw_iload_n 12 dX9_change_11 rfl rfl ?_
    refine aw_iload 14 dX9_change_12 rfl rfl ?_
    obtain ⟨g3, H⟩ := H
    refine aw_callV (stk := []) (ci := 9) [.int x1, .int x4] 17 dX9_change_14 rfl mv_X9_170 ⟨by decide, by decide⟩ g3 (by intro r hr; cases hr; rfl) rfl rfl (by simp [Value.category]) (by decide) H ?_
    rintro _ h2 ⟨r2, rfl, H⟩
    refine aw_if_ne 23 20 dX9_change_17 rfl (by decide) (fun c4 => ?_) (fun c4 => ?_)
    · replace H := H.1 c4
      refine aw_aload_n 24 dX9_change_23 rfl rfl ?_
      obtain ⟨g5, H⟩ := H
      obtain ⟨g6, H⟩ := H
      refine aw_getR 27 dX9_change_24 rfl fl_X9_37 ir_9_3 g5 rfl g6 ?_
      refine aw_iload_n 28 dX9_change_27 rfl rfl ?_
      obtain ⟨g7, H⟩ := H
      obtain ⟨g8, H⟩ := H
      obtain ⟨g9, H⟩ := H
      refine aw_aald 29 dX9_change_28 rfl (shp g7) (by decide) g8 rfl g9 ?_
      obtain ⟨g10, H⟩ := H
      obtain ⟨g11, H⟩ := H
      refine aw_getR 32 dX9_change_29 rfl fl_X9_166 ir_0_1 g10 rfl g11 ?_
      refine aw_iload_n 33 dX9_change_32 rfl rfl ?_
      obtain ⟨g12, H⟩ := H
      obtain ⟨g13, H⟩ := H
      obtain ⟨g14, H⟩ := H
      refine aw_aald 34 dX9_change_33 rfl (shp g12) (by decide) g13 rfl g14 ?_
      refine aw_iload_n 35 dX9_change_34 rfl rfl ?_
      obtain ⟨g15, H⟩ := H
      obtain ⟨g16, H⟩ := H
      refine aw_iald 36 dX9_change_35 rfl (Or.inl (shp g15)) g16 ?_
      refine aw_istore (loc' := [some (.ref a0), some (.int x1), some (.int x2), some (.int x3), some (.int x4), some (.int (hI h2 (hR h2 (hR h2 (hR h2 (hR h2 a0 3) x1.toNatClampNeg) 1) x2.toNatClampNeg) x3.toNatClampNeg))]) 38 dX9_change_36 rfl (by decide) rfl ?_
      refine aw_aload_n 39 dX9_change_38 rfl rfl ?_
      refine aw_getR 42 dX9_change_39 rfl fl_X9_37 ir_9_3 g5 rfl g6 ?_
      refine aw_iload_n 43 dX9_change_42 rfl rfl ?_
      refine aw_aald 44 dX9_change_43 rfl (shp g7) (by decide) g8 rfl g9 ?_
      refine aw_getR 47 dX9_change_44 rfl fl_X9_166 ir_0_1 g10 rfl g11 ?_
      refine aw_iload_n 48 dX9_change_47 rfl rfl ?_
      refine aw_aald 49 dX9_change_48 rfl (shp g12) (by decide) g13 rfl g14 ?_
      refine aw_iload_n 50 dX9_change_49 rfl rfl ?_
      refine aw_iload 52 dX9_change_50 rfl rfl ?_
      refine aw_iast 53 dX9_change_52 rfl (shp g15) g16 ?_
      replace H := H _ rfl
      refine aw_aload_n 54 dX9_change_53 rfl rfl ?_
      refine aw_iconst (v := 1) 55 dX9_change_54 rfl (by decide) ?_
      refine aw_putZ 58 dX9_change_55 rfl fl_X9_87 (by decide) (by decide) g5 nf_9_11 ?_
      replace H := H _ rfl
      refine aw_iload 60 dX9_change_58 rfl rfl ?_
      exact aw_ireturn dX9_change_60 rfl (by decide) (by decide) ⟨_, rfl, H⟩
    · replace H := H.2 c4
      refine aw_ldc 22 dX9_change_20 rfl kc_X9_123 ?_
      exact aw_ireturn dX9_change_22 rfl (by decide) (by decide) ⟨_, rfl, H⟩
theorem eX9_change {w : Wd} {Q : Int32 → Hp → Prop} {h : Hp} {a0 : Nat} {x1 : Int32} {x2 : Int32} {x3 : Int32} {x4 : Int32} (H : AW w mX9_change 0 0 (rI Q) 0 0 0 [some (.ref a0), some (.int x1), some (.int x2), some (.int x3), some (.int x4), none] [] h) : AC w mX9_change 0 0 (rI Q) [.ref a0, .int x1, .int x2, .int x3, .int x4] h := AC.ofL (by decide) (by simp [enl, Value.category]) (by simp [leL, enl, Value.category]) H
set_option maxHeartbeats 4000000 in
set_option maxRecDepth 100000 in
theorem sX9_fast_0 {w : Wd} {Q : Int32 → Hp → Prop} {h : Hp} {a0 : Nat} {x1 : Int32} {x2 : Int32} (H : (hs h a0).1 = 29 ∧ AC w mX9_isSentence 0 0 (rI fun r1 h1 => ((r1 = 0 → Q (-100001) h1) ∧ (¬ r1 = 0 → (hs h1 a0).1 = 29 ∧ AC w mX9_isSentence 0 0 (rI fun r2 h2 => ((¬ r2 = 0 → (hs h2 a0).1 = 29 ∧ hR h2 a0 5 ≠ 0 ∧ (hs h2 (hR h2 a0 5)).1 = 23 ∧ AC w mX3_mayTie 0 0 (rI fun r3 h3 => ((¬ r3 = 0 → (hs h3 a0).1 = 29 ∧ hR h3 a0 5 ≠ 0 ∧ (hs h3 (hR h3 a0 5)).1 = 23 ∧ (((hI h3 (hR h3 a0 5) 2) < 20 → AC w mX3_tie 0 0 (rV fun h4 => (hs h4 a0).1 = 29 ∧ ∀ h5, h5 = sI h4 a0 11 1 → hR h4 a0 5 ≠ 0 ∧ (hs h4 (hR h4 a0 5)).1 = 23 ∧ Q (hI h5 (hR h4 a0 5) 2) h5) [.ref (hR h3 a0 5), .int x1, .int x2] h3) ∧ (¬ (hI h3 (hR h3 a0 5) 2) < 20 → Q (-100004) h3))) ∧ (r3 = 0 → Q (-100003) h3))) [.ref (hR h2 a0 5), .int x1, .int x2] h2) ∧ (r2 = 0 → Q (-100001) h2))) [.ref a0, .int 1, .int x2] h1))) [.ref a0, .int 0, .int x1] h) : AW w mX9_fast 0 0 (rI Q) 0 0 0 [some (.ref a0), some (.int x1), some (.int x2)] [] h := by
  refine aw_aload_n 1 dX9_fast_0 rfl rfl ?_
  refine aw_iconst (v := 0) 2 dX9_fast_1 rfl (by decide) ?_
  refine aw_iload_n 3 dX9_fast_2 rfl rfl ?_
  obtain ⟨g1, H⟩ := H
  refine aw_callV (stk := []) (ci := 9) [.int 0, .int x1] 6 dX9_fast_3 rfl mv_X9_151 ⟨by decide, by decide⟩ g1 (by intro r hr; cases hr; rfl) rfl rfl (by simp [Value.category]) (by decide) H ?_
  rintro _ h1 ⟨r1, rfl, H⟩
  refine aw_if_eq 18 9 dX9_fast_6 rfl (by decide) (fun c2 => ?_) (fun c2 => ?_)
  · replace H := H.1 c2
    refine aw_ldc 20 dX9_fast_18 rfl kc_X9_123 ?_
    exact aw_ireturn dX9_fast_20 rfl (by decide) (by decide) ⟨_, rfl, H⟩
  · replace H := H.2 c2
    refine aw_aload_n 10 dX9_fast_9 rfl rfl ?_
    refine aw_iconst (v := 1) 11 dX9_fast_10 rfl (by decide) ?_
    refine aw_iload_n 12 dX9_fast_11 rfl rfl ?_
    obtain ⟨g3, H⟩ := H
    refine aw_callV (stk := []) (ci := 9) [.int 1, .int x2] 15 dX9_fast_12 rfl mv_X9_151 ⟨by decide, by decide⟩ g3 (by intro r hr; cases hr; rfl) rfl rfl (by simp [Value.category]) (by decide) H ?_
    rintro _ h2 ⟨r2, rfl, H⟩
    refine aw_if_ne 21 18 dX9_fast_15 rfl (by decide) (fun c4 => ?_) (fun c4 => ?_)
    · replace H := H.1 c4
      refine aw_aload_n 22 dX9_fast_21 rfl rfl ?_
      obtain ⟨g5, H⟩ := H
      obtain ⟨g6, H⟩ := H
      refine aw_getR 25 dX9_fast_22 rfl fl_X9_48 ir_9_5 g5 rfl g6 ?_
      refine aw_iload_n 26 dX9_fast_25 rfl rfl ?_
      refine aw_iload_n 27 dX9_fast_26 rfl rfl ?_
      obtain ⟨g7, H⟩ := H
      refine aw_callV (stk := []) (ci := 3) [.int x1, .int x2] 30 dX9_fast_27 rfl mv_X9_176 ⟨by decide, by decide⟩ g7 (by intro r hr; cases hr; rfl) rfl rfl (by simp [Value.category]) (by decide) H ?_
      rintro _ h3 ⟨r3, rfl, H⟩
      refine aw_if_ne 36 33 dX9_fast_30 rfl (by decide) (fun c8 => ?_) (fun c8 => ?_)
      · replace H := H.1 c8
        refine aw_aload_n 37 dX9_fast_36 rfl rfl ?_
        obtain ⟨g9, H⟩ := H
        obtain ⟨g10, H⟩ := H
        refine aw_getR 40 dX9_fast_37 rfl fl_X9_48 ir_9_5 g9 rfl g10 ?_
        obtain ⟨g11, H⟩ := H
        refine aw_getI 43 dX9_fast_40 rfl fl_X9_179 (by decide) g11 ?_
        refine aw_bipush (v := 20) 45 dX9_fast_43 rfl (by decide) ?_
        refine aw_icmp_lt 51 48 dX9_fast_45 rfl (by decide) (fun c12 => ?_) (fun c12 => ?_)
        · replace H := H.1 c12
          refine aw_aload_n 52 dX9_fast_51 rfl rfl ?_
          refine aw_getR 55 dX9_fast_52 rfl fl_X9_48 ir_9_5 g9 rfl g10 ?_
          refine aw_iload_n 56 dX9_fast_55 rfl rfl ?_
          refine aw_iload_n 57 dX9_fast_56 rfl rfl ?_
          refine aw_callV (stk := []) (ci := 3) [.int x1, .int x2] 60 dX9_fast_57 rfl mv_X9_180 ⟨by decide, by decide⟩ g11 (by intro r hr; cases hr; rfl) rfl rfl (by simp [Value.category]) (by decide) H ?_
          rintro _ h4 ⟨rfl, H⟩
          refine aw_aload_n 61 dX9_fast_60 rfl rfl ?_
          refine aw_iconst (v := 1) 62 dX9_fast_61 rfl (by decide) ?_
          obtain ⟨g13, H⟩ := H
          refine aw_putZ 65 dX9_fast_62 rfl fl_X9_87 (by decide) (by decide) g13 nf_9_11 ?_
          replace H := H _ rfl
          refine aw_aload_n 66 dX9_fast_65 rfl rfl ?_
          obtain ⟨g14, H⟩ := H
          refine aw_getR 69 dX9_fast_66 rfl fl_X9_48 ir_9_5 g13 rfl g14 ?_
          obtain ⟨g15, H⟩ := H
          refine aw_getI 72 dX9_fast_69 rfl fl_X9_179 (by decide) g15 ?_
          exact aw_ireturn dX9_fast_72 rfl (by decide) (by decide) ⟨_, rfl, H⟩
        · replace H := H.2 c12
          refine aw_ldc 50 dX9_fast_48 rfl kc_X9_95 ?_
          exact aw_ireturn dX9_fast_50 rfl (by decide) (by decide) ⟨_, rfl, H⟩
      · replace H := H.2 c8
        refine aw_ldc 35 dX9_fast_33 rfl kc_X9_104 ?_
        exact aw_ireturn dX9_fast_35 rfl (by decide) (by decide) ⟨_, rfl, H⟩
    · replace H := H.2 c4
      refine aw_ldc 20 dX9_fast_18 rfl kc_X9_123 ?_
      exact aw_ireturn dX9_fast_20 rfl (by decide) (by decide) ⟨_, rfl, H⟩
theorem eX9_fast {w : Wd} {Q : Int32 → Hp → Prop} {h : Hp} {a0 : Nat} {x1 : Int32} {x2 : Int32} (H : AW w mX9_fast 0 0 (rI Q) 0 0 0 [some (.ref a0), some (.int x1), some (.int x2)] [] h) : AC w mX9_fast 0 0 (rI Q) [.ref a0, .int x1, .int x2] h := AC.ofL (by decide) (by simp [enl, Value.category]) (by simp [leL, enl, Value.category]) H
set_option maxHeartbeats 4000000 in
set_option maxRecDepth 100000 in
theorem sX9_loosen_0 {w : Wd} {Q : Int32 → Hp → Prop} {h : Hp} {a0 : Nat} {x1 : Int32} (H : (hs h a0).1 = 29 ∧ AC w mX9_isSentence 0 0 (rI fun r1 h1 => ((¬ r1 = 0 → (hs h1 a0).1 = 29 ∧ hR h1 a0 5 ≠ 0 ∧ (hs h1 (hR h1 a0 5)).1 = 23 ∧ AC w mX3_untie 0 0 (rI fun r2 h2 => ((¬ r2 = 0 → (hs h2 a0).1 = 29 ∧ ∀ h3, h3 = sI h2 a0 11 1 → Q 1 h3) ∧ (r2 = 0 → Q 0 h2))) [.ref (hR h1 a0 5), .int x1] h1) ∧ (r1 = 0 → Q (-100001) h1))) [.ref a0, .int 0, .int x1] h) : AW w mX9_loosen 0 0 (rI Q) 0 0 0 [some (.ref a0), some (.int x1)] [] h := by
  refine aw_aload_n 1 dX9_loosen_0 rfl rfl ?_
  refine aw_iconst (v := 0) 2 dX9_loosen_1 rfl (by decide) ?_
  refine aw_iload_n 3 dX9_loosen_2 rfl rfl ?_
  obtain ⟨g1, H⟩ := H
  refine aw_callV (stk := []) (ci := 9) [.int 0, .int x1] 6 dX9_loosen_3 rfl mv_X9_151 ⟨by decide, by decide⟩ g1 (by intro r hr; cases hr; rfl) rfl rfl (by simp [Value.category]) (by decide) H ?_
  rintro _ h1 ⟨r1, rfl, H⟩
  refine aw_if_ne 12 9 dX9_loosen_6 rfl (by decide) (fun c2 => ?_) (fun c2 => ?_)
  · replace H := H.1 c2
    refine aw_aload_n 13 dX9_loosen_12 rfl rfl ?_
    obtain ⟨g3, H⟩ := H
    obtain ⟨g4, H⟩ := H
    refine aw_getR 16 dX9_loosen_13 rfl fl_X9_48 ir_9_5 g3 rfl g4 ?_
    refine aw_iload_n 17 dX9_loosen_16 rfl rfl ?_
    obtain ⟨g5, H⟩ := H
    refine aw_callV (stk := []) (ci := 3) [.int x1] 20 dX9_loosen_17 rfl mv_X9_183 ⟨by decide, by decide⟩ g5 (by intro r hr; cases hr; rfl) rfl rfl (by simp [Value.category]) (by decide) H ?_
    rintro _ h2 ⟨r2, rfl, H⟩
    refine aw_if_ne 25 23 dX9_loosen_20 rfl (by decide) (fun c6 => ?_) (fun c6 => ?_)
    · replace H := H.1 c6
      refine aw_aload_n 26 dX9_loosen_25 rfl rfl ?_
      refine aw_iconst (v := 1) 27 dX9_loosen_26 rfl (by decide) ?_
      obtain ⟨g7, H⟩ := H
      refine aw_putZ 30 dX9_loosen_27 rfl fl_X9_87 (by decide) (by decide) g7 nf_9_11 ?_
      replace H := H _ rfl
      refine aw_iconst (v := 1) 31 dX9_loosen_30 rfl (by decide) ?_
      exact aw_ireturn dX9_loosen_31 rfl (by decide) (by decide) ⟨_, rfl, H⟩
    · replace H := H.2 c6
      refine aw_iconst (v := 0) 24 dX9_loosen_23 rfl (by decide) ?_
      exact aw_ireturn dX9_loosen_24 rfl (by decide) (by decide) ⟨_, rfl, H⟩
  · replace H := H.2 c2
    refine aw_ldc 11 dX9_loosen_9 rfl kc_X9_123 ?_
    exact aw_ireturn dX9_loosen_11 rfl (by decide) (by decide) ⟨_, rfl, H⟩
theorem eX9_loosen {w : Wd} {Q : Int32 → Hp → Prop} {h : Hp} {a0 : Nat} {x1 : Int32} (H : AW w mX9_loosen 0 0 (rI Q) 0 0 0 [some (.ref a0), some (.int x1)] [] h) : AC w mX9_loosen 0 0 (rI Q) [.ref a0, .int x1] h := AC.ofL (by decide) (by simp [enl, Value.category]) (by simp [leL, enl, Value.category]) H
set_option maxHeartbeats 4000000 in
set_option maxRecDepth 100000 in
theorem sX9_keep_0 {w : Wd} {Q : Int32 → Hp → Prop} {h : Hp} {a0 : Nat} {x1 : Int32} (H : (hs h a0).1 = 29 ∧ hR h a0 7 ≠ 0 ∧ (hs h (hR h a0 7)).1 = 27 ∧ (((hI h (hR h a0 7) 3) = 0 → (x1 = 0 ∨ x1 = 1) ∧ ∀ h1, h1 = sI h (hR h a0 7) 3 x1 → ∀ h2, h2 = sI h1 a0 11 1 → Q 0 h2) ∧ (¬ (hI h (hR h a0 7) 3) = 0 → (x1 = 0 ∨ x1 = 1) ∧ ∀ h3, h3 = sI h (hR h a0 7) 3 x1 → ∀ h4, h4 = sI h3 a0 11 1 → Q 1 h4))) : AW w mX9_keep 0 0 (rI Q) 0 0 0 [some (.ref a0), some (.int x1), none] [] h := by
  refine aw_aload_n 1 dX9_keep_0 rfl rfl ?_
  obtain ⟨g1, H⟩ := H
  obtain ⟨g2, H⟩ := H
  refine aw_getR 4 dX9_keep_1 rfl fl_X9_64 ir_9_7 g1 rfl g2 ?_
  obtain ⟨g3, H⟩ := H
  refine aw_getI 7 dX9_keep_4 rfl fl_X9_186 (by decide) g3 ?_
  refine aw_if_eq 14 10 dX9_keep_7 rfl (by decide) (fun c4 => ?_) (fun c4 => ?_)
  · replace H := H.1 c4
    refine aw_iconst (v := 0) 15 dX9_keep_14 rfl (by decide) ?_
    refine aw_istore_n (loc' := [some (.ref a0), some (.int x1), some (.int 0)]) 16 dX9_keep_15 rfl (by decide) rfl ?_
    refine aw_aload_n 17 dX9_keep_16 rfl rfl ?_
    refine aw_getR 20 dX9_keep_17 rfl fl_X9_64 ir_9_7 g1 rfl g2 ?_
    refine aw_iload_n 21 dX9_keep_20 rfl rfl ?_
    obtain ⟨g5, H⟩ := H
    refine aw_putZ 24 dX9_keep_21 rfl fl_X9_186 (by decide) g5 g3 nf_7_3 ?_
    replace H := H _ rfl
    refine aw_aload_n 25 dX9_keep_24 rfl rfl ?_
    refine aw_iconst (v := 1) 26 dX9_keep_25 rfl (by decide) ?_
    refine aw_putZ 29 dX9_keep_26 rfl fl_X9_87 (by decide) (by decide) g1 nf_9_11 ?_
    replace H := H _ rfl
    refine aw_iload_n 30 dX9_keep_29 rfl rfl ?_
    exact aw_ireturn dX9_keep_30 rfl (by decide) (by decide) ⟨_, rfl, H⟩
  · replace H := H.2 c4
    refine aw_iconst (v := 1) 11 dX9_keep_10 rfl (by decide) ?_
    refine aw_goto 15 dX9_keep_11 (by decide) ?_
    refine aw_istore_n (loc' := [some (.ref a0), some (.int x1), some (.int 1)]) 16 dX9_keep_15 rfl (by decide) rfl ?_
    refine aw_aload_n 17 dX9_keep_16 rfl rfl ?_
    refine aw_getR 20 dX9_keep_17 rfl fl_X9_64 ir_9_7 g1 rfl g2 ?_
    refine aw_iload_n 21 dX9_keep_20 rfl rfl ?_
    obtain ⟨g6, H⟩ := H
    refine aw_putZ 24 dX9_keep_21 rfl fl_X9_186 (by decide) g6 g3 nf_7_3 ?_
    replace H := H _ rfl
    refine aw_aload_n 25 dX9_keep_24 rfl rfl ?_
    refine aw_iconst (v := 1) 26 dX9_keep_25 rfl (by decide) ?_
    refine aw_putZ 29 dX9_keep_26 rfl fl_X9_87 (by decide) (by decide) g1 nf_9_11 ?_
    replace H := H _ rfl
    refine aw_iload_n 30 dX9_keep_29 rfl rfl ?_
    exact aw_ireturn dX9_keep_30 rfl (by decide) (by decide) ⟨_, rfl, H⟩
theorem eX9_keep {w : Wd} {Q : Int32 → Hp → Prop} {h : Hp} {a0 : Nat} {x1 : Int32} (H : AW w mX9_keep 0 0 (rI Q) 0 0 0 [some (.ref a0), some (.int x1), none] [] h) : AC w mX9_keep 0 0 (rI Q) [.ref a0, .int x1] h := AC.ofL (by decide) (by simp [enl, Value.category]) (by simp [leL, enl, Value.category]) H
set_option maxHeartbeats 4000000 in
set_option maxRecDepth 100000 in
theorem sX9_lay_0 {w : Wd} {Q : Int32 → Hp → Prop} {h : Hp} {a0 : Nat} (H : (hs h a0).1 = 29 ∧ AC w mX9_layAnew 0 0 (rV fun h1 => (hs h1 a0).1 = 29 ∧ hR h1 a0 7 ≠ 0 ∧ (hs h1 (hR h1 a0 7)).1 = 27 ∧ (((hI h1 (hR h1 a0 7) 11) = 0 → Q (-1) h1) ∧ (¬ (hI h1 (hR h1 a0 7) 11) = 0 → Q (hI h1 (hR h1 a0 7) 12) h1))) [.ref a0] h) : AW w mX9_lay 0 0 (rI Q) 0 0 0 [some (.ref a0)] [] h := by
  refine aw_aload_n 1 dX9_lay_0 rfl rfl ?_
  obtain ⟨g1, H⟩ := H
  refine aw_callV (stk := []) (ci := 9) [] 4 dX9_lay_1 rfl mv_X9_188 ⟨by decide, by decide⟩ g1 (by intro r hr; cases hr; rfl) rfl rfl (by simp [Value.category]) (by decide) H ?_
  rintro _ h1 ⟨rfl, H⟩
  refine aw_aload_n 5 dX9_lay_4 rfl rfl ?_
  obtain ⟨g2, H⟩ := H
  obtain ⟨g3, H⟩ := H
  refine aw_getR 8 dX9_lay_5 rfl fl_X9_64 ir_9_7 g2 rfl g3 ?_
  obtain ⟨g4, H⟩ := H
  refine aw_getI 11 dX9_lay_8 rfl fl_X9_191 (by decide) g4 ?_
  refine aw_if_eq 24 14 dX9_lay_11 rfl (by decide) (fun c5 => ?_) (fun c5 => ?_)
  · replace H := H.1 c5
    refine aw_iconst (v := (-1)) 25 dX9_lay_24 rfl (by decide) ?_
    exact aw_ireturn dX9_lay_25 rfl (by decide) (by decide) ⟨_, rfl, H⟩
  · replace H := H.2 c5
    refine aw_aload_n 15 dX9_lay_14 rfl rfl ?_
    refine aw_getR 18 dX9_lay_15 rfl fl_X9_64 ir_9_7 g2 rfl g3 ?_
    refine aw_getI 21 dX9_lay_18 rfl fl_X9_194 (by decide) g4 ?_
    refine aw_goto 25 dX9_lay_21 (by decide) ?_
    exact aw_ireturn dX9_lay_25 rfl (by decide) (by decide) ⟨_, rfl, H⟩
theorem eX9_lay {w : Wd} {Q : Int32 → Hp → Prop} {h : Hp} {a0 : Nat} (H : AW w mX9_lay 0 0 (rI Q) 0 0 0 [some (.ref a0)] [] h) : AC w mX9_lay 0 0 (rI Q) [.ref a0] h := AC.ofL (by decide) (by simp [enl, Value.category]) (by simp [leL, enl, Value.category]) H
set_option maxHeartbeats 4000000 in
set_option maxRecDepth 100000 in
theorem sX9_joint_0 {w : Wd} {Q : Int32 → Hp → Prop} {h : Hp} {a0 : Nat} {x1 : Int32} {x2 : Int32} (H : (hs h a0).1 = 29 ∧ AC w mX9_layAnew 0 0 (rV fun h1 => (hs h1 a0).1 = 29 ∧ hR h1 a0 7 ≠ 0 ∧ (hs h1 (hR h1 a0 7)).1 = 27 ∧ AC w mX7_hasJoint 0 0 (rI fun r2 h2 => ((¬ r2 = 0 → (((x2.toInt < 0 ∨ 3 < x2.toInt) → Q (-100002) h2) ∧ (x2.toInt = 0 → (hs h2 a0).1 = 29 ∧ hR h2 a0 7 ≠ 0 ∧ (hs h2 (hR h2 a0 7)).1 = 27 ∧ hR h2 (hR h2 a0 7) 13 ≠ 0 ∧ (hs h2 (hR h2 (hR h2 a0 7) 13)).1 = 1 ∧ vp_in x1 (hs h2 (hR h2 (hR h2 a0 7) 13)).2 ∧ Q (hI h2 (hR h2 (hR h2 a0 7) 13) x1.toNatClampNeg) h2) ∧ (x2.toInt = 1 → (hs h2 a0).1 = 29 ∧ hR h2 a0 7 ≠ 0 ∧ (hs h2 (hR h2 a0 7)).1 = 27 ∧ hR h2 (hR h2 a0 7) 14 ≠ 0 ∧ (hs h2 (hR h2 (hR h2 a0 7) 14)).1 = 1 ∧ vp_in x1 (hs h2 (hR h2 (hR h2 a0 7) 14)).2 ∧ Q (hI h2 (hR h2 (hR h2 a0 7) 14) x1.toNatClampNeg) h2) ∧ (x2.toInt = 2 → (hs h2 a0).1 = 29 ∧ hR h2 a0 7 ≠ 0 ∧ (hs h2 (hR h2 a0 7)).1 = 27 ∧ hR h2 (hR h2 a0 7) 15 ≠ 0 ∧ (hs h2 (hR h2 (hR h2 a0 7) 15)).1 = 1 ∧ vp_in x1 (hs h2 (hR h2 (hR h2 a0 7) 15)).2 ∧ Q (hI h2 (hR h2 (hR h2 a0 7) 15) x1.toNatClampNeg) h2) ∧ (x2.toInt = 3 → (hs h2 a0).1 = 29 ∧ hR h2 a0 7 ≠ 0 ∧ (hs h2 (hR h2 a0 7)).1 = 27 ∧ hR h2 (hR h2 a0 7) 16 ≠ 0 ∧ (hs h2 (hR h2 (hR h2 a0 7) 16)).1 = 1 ∧ vp_in x1 (hs h2 (hR h2 (hR h2 a0 7) 16)).2 ∧ Q (hI h2 (hR h2 (hR h2 a0 7) 16) x1.toNatClampNeg) h2))) ∧ (r2 = 0 → Q (-100001) h2))) [.ref (hR h1 a0 7), .int x1] h1) [.ref a0] h) : AW w mX9_joint 0 0 (rI Q) 0 0 0 [some (.ref a0), some (.int x1), some (.int x2)] [] h := by
  refine aw_aload_n 1 dX9_joint_0 rfl rfl ?_
  obtain ⟨g1, H⟩ := H
  refine aw_callV (stk := []) (ci := 9) [] 4 dX9_joint_1 rfl mv_X9_188 ⟨by decide, by decide⟩ g1 (by intro r hr; cases hr; rfl) rfl rfl (by simp [Value.category]) (by decide) H ?_
  rintro _ h1 ⟨rfl, H⟩
  refine aw_aload_n 5 dX9_joint_4 rfl rfl ?_
  obtain ⟨g2, H⟩ := H
  obtain ⟨g3, H⟩ := H
  refine aw_getR 8 dX9_joint_5 rfl fl_X9_64 ir_9_7 g2 rfl g3 ?_
  refine aw_iload_n 9 dX9_joint_8 rfl rfl ?_
  obtain ⟨g4, H⟩ := H
  refine aw_callV (stk := []) (ci := 7) [.int x1] 12 dX9_joint_9 rfl mv_X9_197 ⟨by decide, by decide⟩ g4 (by intro r hr; cases hr; rfl) rfl rfl (by simp [Value.category]) (by decide) H ?_
  rintro _ h2 ⟨r2, rfl, H⟩
  refine aw_if_ne 18 15 dX9_joint_12 rfl (by decide) (fun c5 => ?_) (fun c5 => ?_)
  · replace H := H.1 c5
    refine aw_iload_n 19 dX9_joint_18 rfl rfl ?_
    by_cases c6 : (x2.toInt < 0 ∨ 3 < x2.toInt)
    · refine aw_tableOut 88 dX9_joint_19 c6 (by decide) ?_
      replace H := H.1 c6
      refine aw_ldc 90 dX9_joint_88 rfl kc_X9_99 ?_
      exact aw_ireturn dX9_joint_90 rfl (by decide) (by decide) ⟨_, rfl, H⟩
    · replace H := H.2
      have c6a : ¬ x2.toInt < 0 := fun z => c6 (Or.inl z)
      have c6b : ¬ 3 < x2.toInt := fun z => c6 (Or.inr z)
      rcases (show x2.toInt = 0 ∨ x2.toInt = 1 ∨ x2.toInt = 2 ∨ x2.toInt = 3 by omega) with c6e | c6e | c6e | c6e
      · refine aw_tableIn 48 dX9_joint_19 c6a c6b (by rw [c6e]; rfl) (by decide) ?_
        replace H := H.1 c6e
        refine aw_aload_n 49 dX9_joint_48 rfl rfl ?_
        obtain ⟨g7, H⟩ := H
        obtain ⟨g8, H⟩ := H
        refine aw_getR 52 dX9_joint_49 rfl fl_X9_64 ir_9_7 g7 rfl g8 ?_
        obtain ⟨g9, H⟩ := H
        obtain ⟨g10, H⟩ := H
        refine aw_getR 55 dX9_joint_52 rfl fl_X9_200 ir_7_13 g9 rfl g10 ?_
        refine aw_iload_n 56 dX9_joint_55 rfl rfl ?_
        obtain ⟨g11, H⟩ := H
        obtain ⟨g12, H⟩ := H
        refine aw_iald 57 dX9_joint_56 rfl (Or.inl (shp g11)) g12 ?_
        exact aw_ireturn dX9_joint_57 rfl (by decide) (by decide) ⟨_, rfl, H⟩
      · refine aw_tableIn 58 dX9_joint_19 c6a c6b (by rw [c6e]; rfl) (by decide) ?_
        replace H := H.2.1 c6e
        refine aw_aload_n 59 dX9_joint_58 rfl rfl ?_
        obtain ⟨g13, H⟩ := H
        obtain ⟨g14, H⟩ := H
        refine aw_getR 62 dX9_joint_59 rfl fl_X9_64 ir_9_7 g13 rfl g14 ?_
        obtain ⟨g15, H⟩ := H
        obtain ⟨g16, H⟩ := H
        refine aw_getR 65 dX9_joint_62 rfl fl_X9_203 ir_7_14 g15 rfl g16 ?_
        refine aw_iload_n 66 dX9_joint_65 rfl rfl ?_
        obtain ⟨g17, H⟩ := H
        obtain ⟨g18, H⟩ := H
        refine aw_iald 67 dX9_joint_66 rfl (Or.inl (shp g17)) g18 ?_
        exact aw_ireturn dX9_joint_67 rfl (by decide) (by decide) ⟨_, rfl, H⟩
      · refine aw_tableIn 68 dX9_joint_19 c6a c6b (by rw [c6e]; rfl) (by decide) ?_
        replace H := H.2.2.1 c6e
        refine aw_aload_n 69 dX9_joint_68 rfl rfl ?_
        obtain ⟨g19, H⟩ := H
        obtain ⟨g20, H⟩ := H
        refine aw_getR 72 dX9_joint_69 rfl fl_X9_64 ir_9_7 g19 rfl g20 ?_
        obtain ⟨g21, H⟩ := H
        obtain ⟨g22, H⟩ := H
        refine aw_getR 75 dX9_joint_72 rfl fl_X9_206 ir_7_15 g21 rfl g22 ?_
        refine aw_iload_n 76 dX9_joint_75 rfl rfl ?_
        obtain ⟨g23, H⟩ := H
        obtain ⟨g24, H⟩ := H
        refine aw_iald 77 dX9_joint_76 rfl (Or.inl (shp g23)) g24 ?_
        exact aw_ireturn dX9_joint_77 rfl (by decide) (by decide) ⟨_, rfl, H⟩
      · refine aw_tableIn 78 dX9_joint_19 c6a c6b (by rw [c6e]; rfl) (by decide) ?_
        replace H := H.2.2.2 c6e
        refine aw_aload_n 79 dX9_joint_78 rfl rfl ?_
        obtain ⟨g25, H⟩ := H
        obtain ⟨g26, H⟩ := H
        refine aw_getR 82 dX9_joint_79 rfl fl_X9_64 ir_9_7 g25 rfl g26 ?_
        obtain ⟨g27, H⟩ := H
        obtain ⟨g28, H⟩ := H
        refine aw_getR 85 dX9_joint_82 rfl fl_X9_209 ir_7_16 g27 rfl g28 ?_
        refine aw_iload_n 86 dX9_joint_85 rfl rfl ?_
        obtain ⟨g29, H⟩ := H
        obtain ⟨g30, H⟩ := H
        refine aw_iald 87 dX9_joint_86 rfl (Or.inl (shp g29)) g30 ?_
        exact aw_ireturn dX9_joint_87 rfl (by decide) (by decide) ⟨_, rfl, H⟩
  · replace H := H.2 c5
    refine aw_ldc 17 dX9_joint_15 rfl kc_X9_123 ?_
    exact aw_ireturn dX9_joint_17 rfl (by decide) (by decide) ⟨_, rfl, H⟩
theorem eX9_joint {w : Wd} {Q : Int32 → Hp → Prop} {h : Hp} {a0 : Nat} {x1 : Int32} {x2 : Int32} (H : AW w mX9_joint 0 0 (rI Q) 0 0 0 [some (.ref a0), some (.int x1), some (.int x2)] [] h) : AC w mX9_joint 0 0 (rI Q) [.ref a0, .int x1, .int x2] h := AC.ofL (by decide) (by simp [enl, Value.category]) (by simp [leL, enl, Value.category]) H
