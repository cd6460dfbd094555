section AWR
variable {w : Wd} {M : Mi} {mc ms k n pc : Nat} {Q : Option Value → Hp → Prop} {loc : List (Option Value)} {stk : List Value} {h : Hp}
theorem aw_iconst {z : Int} {v : Int32} (pc' : Nat) (d : decode M.2.1 pc = .ok (.iconst z, 1)) (hp : pc + 1 = pc') (hv : Int32.ofInt z = v) (K : AW w M mc ms Q k n pc' loc (.int v :: stk) h) : AW w M mc ms Q k n pc loc (stk) h := by
  subst hp
  intro p e s m args below meth c C E H locs ls hS hR hL
  exact lv_iconst C.1.1 C.1.2.1 d hv (K p e s m args below meth c C E H locs ls hS hR hL)
theorem aw_bipush {z : Int} {v : Int32} (pc' : Nat) (d : decode M.2.1 pc = .ok (.bipush z, 2)) (hp : pc + 2 = pc') (hv : (Int8.ofInt z).toInt32 = v) (K : AW w M mc ms Q k n pc' loc (.int v :: stk) h) : AW w M mc ms Q k n pc loc (stk) h := by
  subst hp
  intro p e s m args below meth c C E H locs ls hS hR hL
  exact lv_bipush C.1.1 C.1.2.1 d hv (K p e s m args below meth c C E H locs ls hS hR hL)
theorem aw_sipush {z : Int} {v : Int32} (pc' : Nat) (d : decode M.2.1 pc = .ok (.sipush z, 3)) (hp : pc + 3 = pc') (hv : (Int16.ofInt z).toInt32 = v) (K : AW w M mc ms Q k n pc' loc (.int v :: stk) h) : AW w M mc ms Q k n pc loc (stk) h := by
  subst hp
  intro p e s m args below meth c C E H locs ls hS hR hL
  exact lv_sipush C.1.1 C.1.2.1 d hv (K p e s m args below meth c C E H locs ls hS hR hL)
theorem aw_lconst {z : Fin 2} {v : Int64} (pc' : Nat) (d : decode M.2.1 pc = .ok (.lconst z, 1)) (hp : pc + 1 = pc') (hv : Int64.ofNat (z : Nat) = v) (K : AW w M mc ms Q k n pc' loc (.long v :: stk) h) : AW w M mc ms Q k n pc loc (stk) h := by
  subst hp
  intro p e s m args below meth c C E H locs ls hS hR hL
  exact lv_lconst C.1.1 C.1.2.1 d hv (K p e s m args below meth c C E H locs ls hS hR hL)
theorem aw_iload_n {z : Fin 4} {x : Int32} (pc' : Nat) (d : decode M.2.1 pc = .ok (.iload_n z, 1)) (hp : pc + 1 = pc') (hl : loc[(z : Nat)]? = some (some (.int x))) (K : AW w M mc ms Q k n pc' loc (.int x :: stk) h) : AW w M mc ms Q k n pc loc (stk) h := by
  subst hp
  intro p e s m args below meth c C E H locs ls hS hR hL
  exact lv_iload_n C.1.1 C.1.2.1 d rfl (hL.2.2 _ _ hl) (K p e s m args below meth c C E H locs ls hS hR hL)
theorem aw_iload {i : Nat} {x : Int32} (pc' : Nat) (d : decode M.2.1 pc = .ok (.iload i, 2)) (hp : pc + 2 = pc') (hl : loc[i]? = some (some (.int x))) (K : AW w M mc ms Q k n pc' loc (.int x :: stk) h) : AW w M mc ms Q k n pc loc (stk) h := by
  subst hp
  intro p e s m args below meth c C E H locs ls hS hR hL
  exact lv_iload C.1.1 C.1.2.1 d (hL.2.2 _ _ hl) (K p e s m args below meth c C E H locs ls hS hR hL)
theorem aw_lload_n {z : Fin 4} {x : Int64} (pc' : Nat) (d : decode M.2.1 pc = .ok (.lload_n z, 1)) (hp : pc + 1 = pc') (hl : loc[(z : Nat)]? = some (some (.long x))) (K : AW w M mc ms Q k n pc' loc (.long x :: stk) h) : AW w M mc ms Q k n pc loc (stk) h := by
  subst hp
  intro p e s m args below meth c C E H locs ls hS hR hL
  exact lv_lload_n C.1.1 C.1.2.1 d rfl (hL.2.2 _ _ hl) (K p e s m args below meth c C E H locs ls hS hR hL)
theorem aw_lload {i : Nat} {x : Int64} (pc' : Nat) (d : decode M.2.1 pc = .ok (.lload i, 2)) (hp : pc + 2 = pc') (hl : loc[i]? = some (some (.long x))) (K : AW w M mc ms Q k n pc' loc (.long x :: stk) h) : AW w M mc ms Q k n pc loc (stk) h := by
  subst hp
  intro p e s m args below meth c C E H locs ls hS hR hL
  exact lv_lload C.1.1 C.1.2.1 d (hL.2.2 _ _ hl) (K p e s m args below meth c C E H locs ls hS hR hL)
theorem aw_aload_n {z : Fin 4} {x : Nat} (pc' : Nat) (d : decode M.2.1 pc = .ok (.aload_n z, 1)) (hp : pc + 1 = pc') (hl : loc[(z : Nat)]? = some (some (.ref x))) (K : AW w M mc ms Q k n pc' loc (.ref x :: stk) h) : AW w M mc ms Q k n pc loc (stk) h := by
  subst hp
  intro p e s m args below meth c C E H locs ls hS hR hL
  exact lv_aload_n C.1.1 C.1.2.1 d rfl (hL.2.2 _ _ hl) (K p e s m args below meth c C E H locs ls hS hR hL)
theorem aw_aload {i : Nat} {x : Nat} (pc' : Nat) (d : decode M.2.1 pc = .ok (.aload i, 2)) (hp : pc + 2 = pc') (hl : loc[i]? = some (some (.ref x))) (K : AW w M mc ms Q k n pc' loc (.ref x :: stk) h) : AW w M mc ms Q k n pc loc (stk) h := by
  subst hp
  intro p e s m args below meth c C E H locs ls hS hR hL
  exact lv_aload C.1.1 C.1.2.1 d (hL.2.2 _ _ hl) (K p e s m args below meth c C E H locs ls hS hR hL)
theorem aw_iadd {x : Int32} {y : Int32} (pc' : Nat) (d : decode M.2.1 pc = .ok (.iadd, 1)) (hp : pc + 1 = pc') (K : AW w M mc ms Q k n pc' loc (.int (x + y) :: stk) h) : AW w M mc ms Q k n pc loc (.int y :: .int x :: stk) h := by
  subst hp
  intro p e s m args below meth c C E H locs ls hS hR hL
  exact lv_iadd C.1.1 C.1.2.1 d (K p e s m args below meth c C E H locs ls hS hR hL)
theorem aw_ladd {x : Int64} {y : Int64} (pc' : Nat) (d : decode M.2.1 pc = .ok (.ladd, 1)) (hp : pc + 1 = pc') (K : AW w M mc ms Q k n pc' loc (.long (x + y) :: stk) h) : AW w M mc ms Q k n pc loc (.long y :: .long x :: stk) h := by
  subst hp
  intro p e s m args below meth c C E H locs ls hS hR hL
  exact lv_ladd C.1.1 C.1.2.1 d (K p e s m args below meth c C E H locs ls hS hR hL)
theorem aw_isub {x : Int32} {y : Int32} (pc' : Nat) (d : decode M.2.1 pc = .ok (.isub, 1)) (hp : pc + 1 = pc') (K : AW w M mc ms Q k n pc' loc (.int (x - y) :: stk) h) : AW w M mc ms Q k n pc loc (.int y :: .int x :: stk) h := by
  subst hp
  intro p e s m args below meth c C E H locs ls hS hR hL
  exact lv_isub C.1.1 C.1.2.1 d (K p e s m args below meth c C E H locs ls hS hR hL)
theorem aw_lsub {x : Int64} {y : Int64} (pc' : Nat) (d : decode M.2.1 pc = .ok (.lsub, 1)) (hp : pc + 1 = pc') (K : AW w M mc ms Q k n pc' loc (.long (x - y) :: stk) h) : AW w M mc ms Q k n pc loc (.long y :: .long x :: stk) h := by
  subst hp
  intro p e s m args below meth c C E H locs ls hS hR hL
  exact lv_lsub C.1.1 C.1.2.1 d (K p e s m args below meth c C E H locs ls hS hR hL)
theorem aw_imul {x : Int32} {y : Int32} (pc' : Nat) (d : decode M.2.1 pc = .ok (.imul, 1)) (hp : pc + 1 = pc') (K : AW w M mc ms Q k n pc' loc (.int (x * y) :: stk) h) : AW w M mc ms Q k n pc loc (.int y :: .int x :: stk) h := by
  subst hp
  intro p e s m args below meth c C E H locs ls hS hR hL
  exact lv_imul C.1.1 C.1.2.1 d (K p e s m args below meth c C E H locs ls hS hR hL)
theorem aw_lmul {x : Int64} {y : Int64} (pc' : Nat) (d : decode M.2.1 pc = .ok (.lmul, 1)) (hp : pc + 1 = pc') (K : AW w M mc ms Q k n pc' loc (.long (x * y) :: stk) h) : AW w M mc ms Q k n pc loc (.long y :: .long x :: stk) h := by
  subst hp
  intro p e s m args below meth c C E H locs ls hS hR hL
  exact lv_lmul C.1.1 C.1.2.1 d (K p e s m args below meth c C E H locs ls hS hR hL)
theorem aw_iand {x : Int32} {y : Int32} (pc' : Nat) (d : decode M.2.1 pc = .ok (.iand, 1)) (hp : pc + 1 = pc') (K : AW w M mc ms Q k n pc' loc (.int (x &&& y) :: stk) h) : AW w M mc ms Q k n pc loc (.int y :: .int x :: stk) h := by
  subst hp
  intro p e s m args below meth c C E H locs ls hS hR hL
  exact lv_iand C.1.1 C.1.2.1 d (K p e s m args below meth c C E H locs ls hS hR hL)
theorem aw_land {x : Int64} {y : Int64} (pc' : Nat) (d : decode M.2.1 pc = .ok (.land, 1)) (hp : pc + 1 = pc') (K : AW w M mc ms Q k n pc' loc (.long (x &&& y) :: stk) h) : AW w M mc ms Q k n pc loc (.long y :: .long x :: stk) h := by
  subst hp
  intro p e s m args below meth c C E H locs ls hS hR hL
  exact lv_land C.1.1 C.1.2.1 d (K p e s m args below meth c C E H locs ls hS hR hL)
theorem aw_ior {x : Int32} {y : Int32} (pc' : Nat) (d : decode M.2.1 pc = .ok (.ior, 1)) (hp : pc + 1 = pc') (K : AW w M mc ms Q k n pc' loc (.int (x ||| y) :: stk) h) : AW w M mc ms Q k n pc loc (.int y :: .int x :: stk) h := by
  subst hp
  intro p e s m args below meth c C E H locs ls hS hR hL
  exact lv_ior C.1.1 C.1.2.1 d (K p e s m args below meth c C E H locs ls hS hR hL)
theorem aw_lor {x : Int64} {y : Int64} (pc' : Nat) (d : decode M.2.1 pc = .ok (.lor, 1)) (hp : pc + 1 = pc') (K : AW w M mc ms Q k n pc' loc (.long (x ||| y) :: stk) h) : AW w M mc ms Q k n pc loc (.long y :: .long x :: stk) h := by
  subst hp
  intro p e s m args below meth c C E H locs ls hS hR hL
  exact lv_lor C.1.1 C.1.2.1 d (K p e s m args below meth c C E H locs ls hS hR hL)
theorem aw_ixor {x : Int32} {y : Int32} (pc' : Nat) (d : decode M.2.1 pc = .ok (.ixor, 1)) (hp : pc + 1 = pc') (K : AW w M mc ms Q k n pc' loc (.int (x ^^^ y) :: stk) h) : AW w M mc ms Q k n pc loc (.int y :: .int x :: stk) h := by
  subst hp
  intro p e s m args below meth c C E H locs ls hS hR hL
  exact lv_ixor C.1.1 C.1.2.1 d (K p e s m args below meth c C E H locs ls hS hR hL)
theorem aw_idiv {x : Int32} {y : Int32} (pc' : Nat) (d : decode M.2.1 pc = .ok (.idiv, 1)) (hp : pc + 1 = pc') (hy : ¬ y = 0) (K : AW w M mc ms Q k n pc' loc (.int (x / y) :: stk) h) : AW w M mc ms Q k n pc loc (.int y :: .int x :: stk) h := by
  subst hp
  intro p e s m args below meth c C E H locs ls hS hR hL
  exact lv_idiv C.1.1 C.1.2.1 d hy (K p e s m args below meth c C E H locs ls hS hR hL)
theorem aw_irem {x : Int32} {y : Int32} (pc' : Nat) (d : decode M.2.1 pc = .ok (.irem, 1)) (hp : pc + 1 = pc') (hy : ¬ y = 0) (K : AW w M mc ms Q k n pc' loc (.int (x - x / y * y) :: stk) h) : AW w M mc ms Q k n pc loc (.int y :: .int x :: stk) h := by
  subst hp
  intro p e s m args below meth c C E H locs ls hS hR hL
  exact lv_irem C.1.1 C.1.2.1 d hy (K p e s m args below meth c C E H locs ls hS hR hL)
theorem aw_ldiv {x : Int64} {y : Int64} (pc' : Nat) (d : decode M.2.1 pc = .ok (.ldiv, 1)) (hp : pc + 1 = pc') (hy : ¬ y = 0) (K : AW w M mc ms Q k n pc' loc (.long (x / y) :: stk) h) : AW w M mc ms Q k n pc loc (.long y :: .long x :: stk) h := by
  subst hp
  intro p e s m args below meth c C E H locs ls hS hR hL
  exact lv_ldiv C.1.1 C.1.2.1 d hy (K p e s m args below meth c C E H locs ls hS hR hL)
theorem aw_ishl {x : Int32} {y : Int32} (pc' : Nat) (d : decode M.2.1 pc = .ok (.ishl, 1)) (hp : pc + 1 = pc') (K : AW w M mc ms Q k n pc' loc (.int (x <<< (y &&& 31)) :: stk) h) : AW w M mc ms Q k n pc loc (.int y :: .int x :: stk) h := by
  subst hp
  intro p e s m args below meth c C E H locs ls hS hR hL
  exact lv_ishl C.1.1 C.1.2.1 d (K p e s m args below meth c C E H locs ls hS hR hL)
theorem aw_ishr {x : Int32} {y : Int32} (pc' : Nat) (d : decode M.2.1 pc = .ok (.ishr, 1)) (hp : pc + 1 = pc') (K : AW w M mc ms Q k n pc' loc (.int (x >>> (y &&& 31)) :: stk) h) : AW w M mc ms Q k n pc loc (.int y :: .int x :: stk) h := by
  subst hp
  intro p e s m args below meth c C E H locs ls hS hR hL
  exact lv_ishr C.1.1 C.1.2.1 d (K p e s m args below meth c C E H locs ls hS hR hL)
theorem aw_iushr {x : Int32} {y : Int32} (pc' : Nat) (d : decode M.2.1 pc = .ok (.iushr, 1)) (hp : pc + 1 = pc') (K : AW w M mc ms Q k n pc' loc (.int ((x.toUInt32 >>> (y.toUInt32 &&& Int32.toUInt32 31)).toInt32) :: stk) h) : AW w M mc ms Q k n pc loc (.int y :: .int x :: stk) h := by
  subst hp
  intro p e s m args below meth c C E H locs ls hS hR hL
  exact lv_iushr C.1.1 C.1.2.1 d rfl (K p e s m args below meth c C E H locs ls hS hR hL)
theorem aw_lushr {x : Int64} {y : Int32} (pc' : Nat) (d : decode M.2.1 pc = .ok (.lushr, 1)) (hp : pc + 1 = pc') (K : AW w M mc ms Q k n pc' loc (.long ((x.toUInt64 >>> (y.toInt64.toUInt64 &&& Int64.toUInt64 63)).toInt64) :: stk) h) : AW w M mc ms Q k n pc loc (.int y :: .long x :: stk) h := by
  subst hp
  intro p e s m args below meth c C E H locs ls hS hR hL
  exact lv_lushr C.1.1 C.1.2.1 d rfl (K p e s m args below meth c C E H locs ls hS hR hL)
theorem aw_lshl {x : Int64} {y : Int32} (pc' : Nat) (d : decode M.2.1 pc = .ok (.lshl, 1)) (hp : pc + 1 = pc') (K : AW w M mc ms Q k n pc' loc (.long (x <<< (y.toInt64 &&& 63)) :: stk) h) : AW w M mc ms Q k n pc loc (.int y :: .long x :: stk) h := by
  subst hp
  intro p e s m args below meth c C E H locs ls hS hR hL
  exact lv_lshl C.1.1 C.1.2.1 d rfl (K p e s m args below meth c C E H locs ls hS hR hL)
theorem aw_lcmp {x : Int64} {y : Int64} (pc' : Nat) (d : decode M.2.1 pc = .ok (.lcmp, 1)) (hp : pc + 1 = pc') (K : AW w M mc ms Q k n pc' loc (.int (lg_cmp x y) :: stk) h) : AW w M mc ms Q k n pc loc (.long y :: .long x :: stk) h := by
  subst hp
  intro p e s m args below meth c C E H locs ls hS hR hL
  exact W.lcmp C.1.1 C.1.2.1 d (K p e s m args below meth c C E H locs ls hS hR hL)
theorem aw_ineg {x : Int32} (pc' : Nat) (d : decode M.2.1 pc = .ok (.ineg, 1)) (hp : pc + 1 = pc') (K : AW w M mc ms Q k n pc' loc (.int (-x) :: stk) h) : AW w M mc ms Q k n pc loc (.int x :: stk) h := by
  subst hp
  intro p e s m args below meth c C E H locs ls hS hR hL
  exact lv_ineg C.1.1 C.1.2.1 d (K p e s m args below meth c C E H locs ls hS hR hL)
theorem aw_lneg {x : Int64} (pc' : Nat) (d : decode M.2.1 pc = .ok (.lneg, 1)) (hp : pc + 1 = pc') (K : AW w M mc ms Q k n pc' loc (.long (-x) :: stk) h) : AW w M mc ms Q k n pc loc (.long x :: stk) h := by
  subst hp
  intro p e s m args below meth c C E H locs ls hS hR hL
  exact lv_lneg C.1.1 C.1.2.1 d (K p e s m args below meth c C E H locs ls hS hR hL)
theorem aw_i2l {x : Int32} (pc' : Nat) (d : decode M.2.1 pc = .ok (.i2l, 1)) (hp : pc + 1 = pc') (K : AW w M mc ms Q k n pc' loc (.long x.toInt64 :: stk) h) : AW w M mc ms Q k n pc loc (.int x :: stk) h := by
  subst hp
  intro p e s m args below meth c C E H locs ls hS hR hL
  exact lv_i2l C.1.1 C.1.2.1 d rfl (K p e s m args below meth c C E H locs ls hS hR hL)
theorem aw_l2i {x : Int64} (pc' : Nat) (d : decode M.2.1 pc = .ok (.l2i, 1)) (hp : pc + 1 = pc') (K : AW w M mc ms Q k n pc' loc (.int x.toInt32 :: stk) h) : AW w M mc ms Q k n pc loc (.long x :: stk) h := by
  subst hp
  intro p e s m args below meth c C E H locs ls hS hR hL
  exact lv_l2i C.1.1 C.1.2.1 d rfl (K p e s m args below meth c C E H locs ls hS hR hL)
theorem aw_i2b {x : Int32} (pc' : Nat) (d : decode M.2.1 pc = .ok (.i2b, 1)) (hp : pc + 1 = pc') (K : AW w M mc ms Q k n pc' loc (.int x.toInt8.toInt32 :: stk) h) : AW w M mc ms Q k n pc loc (.int x :: stk) h := by
  subst hp
  intro p e s m args below meth c C E H locs ls hS hR hL
  exact lv_i2b C.1.1 C.1.2.1 d rfl (K p e s m args below meth c C E H locs ls hS hR hL)
theorem aw_dup {v : Value} (pc' : Nat) (d : decode M.2.1 pc = .ok (.dup, 1)) (hp : pc + 1 = pc') (hv : v.category = 1) (K : AW w M mc ms Q k n pc' loc (v :: v :: stk) h) : AW w M mc ms Q k n pc loc (v :: stk) h := by
  subst hp
  intro p e s m args below meth c C E H locs ls hS hR hL
  exact lv_dup C.1.1 C.1.2.1 d ((cv_cat w v).trans hv) (K p e s m args below meth c C E H locs ls hS hR hL)
theorem aw_dup2 {v u : Value} (pc' : Nat) (d : decode M.2.1 pc = .ok (.dup2, 1)) (hp : pc + 1 = pc') (hv : v.category = 1) (hu : u.category = 1) (K : AW w M mc ms Q k n pc' loc (v :: u :: v :: u :: stk) h) : AW w M mc ms Q k n pc loc (v :: u :: stk) h := by
  subst hp
  intro p e s m args below meth c C E H locs ls hS hR hL
  exact lv_dup2_11 C.1.1 C.1.2.1 d ((cv_cat w v).trans hv) ((cv_cat w u).trans hu) (K p e s m args below meth c C E H locs ls hS hR hL)
theorem aw_icmp_eq {x y : Int32} {z : Int} (tgt pc' : Nat) (d : decode M.2.1 pc = .ok (.if_icmp .eq z, 3)) (hp : pc + 3 = pc') (ht : (pc : Int) + z = (tgt : Int)) (K1 : x = y → AW w M mc ms Q k n tgt loc stk h) (K2 : ¬ x = y → AW w M mc ms Q k n pc' loc stk h) : AW w M mc ms Q k n pc loc (.int y :: .int x :: stk) h := by
  subst hp
  intro p e s m args below meth c C E H locs ls hS hR hL
  exact lv_icmp_eq C.1.1 C.1.2.1 d ht (fun q => K1 q p e s m args below meth c C E H locs ls hS hR hL) (fun q => K2 q p e s m args below meth c C E H locs ls hS hR hL)
theorem aw_if_eq {x : Int32} {z : Int} (tgt pc' : Nat) (d : decode M.2.1 pc = .ok (.ifCond .eq z, 3)) (hp : pc + 3 = pc') (ht : (pc : Int) + z = (tgt : Int)) (K1 : x = 0 → AW w M mc ms Q k n tgt loc stk h) (K2 : ¬ x = 0 → AW w M mc ms Q k n pc' loc stk h) : AW w M mc ms Q k n pc loc (.int x :: stk) h := by
  subst hp
  intro p e s m args below meth c C E H locs ls hS hR hL
  exact lv_if_eq C.1.1 C.1.2.1 d ht (fun q => K1 q p e s m args below meth c C E H locs ls hS hR hL) (fun q => K2 q p e s m args below meth c C E H locs ls hS hR hL)
theorem aw_icmp_ne {x y : Int32} {z : Int} (tgt pc' : Nat) (d : decode M.2.1 pc = .ok (.if_icmp .ne z, 3)) (hp : pc + 3 = pc') (ht : (pc : Int) + z = (tgt : Int)) (K1 : ¬ x = y → AW w M mc ms Q k n tgt loc stk h) (K2 : x = y → AW w M mc ms Q k n pc' loc stk h) : AW w M mc ms Q k n pc loc (.int y :: .int x :: stk) h := by
  subst hp
  intro p e s m args below meth c C E H locs ls hS hR hL
  exact lv_icmp_ne C.1.1 C.1.2.1 d ht (fun q => K1 q p e s m args below meth c C E H locs ls hS hR hL) (fun q => K2 (by first | exact q | exact Decidable.not_not.mp q) p e s m args below meth c C E H locs ls hS hR hL)
theorem aw_if_ne {x : Int32} {z : Int} (tgt pc' : Nat) (d : decode M.2.1 pc = .ok (.ifCond .ne z, 3)) (hp : pc + 3 = pc') (ht : (pc : Int) + z = (tgt : Int)) (K1 : ¬ x = 0 → AW w M mc ms Q k n tgt loc stk h) (K2 : x = 0 → AW w M mc ms Q k n pc' loc stk h) : AW w M mc ms Q k n pc loc (.int x :: stk) h := by
  subst hp
  intro p e s m args below meth c C E H locs ls hS hR hL
  exact lv_if_ne C.1.1 C.1.2.1 d ht (fun q => K1 q p e s m args below meth c C E H locs ls hS hR hL) (fun q => K2 (by first | exact q | exact Decidable.not_not.mp q) p e s m args below meth c C E H locs ls hS hR hL)
theorem aw_icmp_lt {x y : Int32} {z : Int} (tgt pc' : Nat) (d : decode M.2.1 pc = .ok (.if_icmp .lt z, 3)) (hp : pc + 3 = pc') (ht : (pc : Int) + z = (tgt : Int)) (K1 : x < y → AW w M mc ms Q k n tgt loc stk h) (K2 : ¬ x < y → AW w M mc ms Q k n pc' loc stk h) : AW w M mc ms Q k n pc loc (.int y :: .int x :: stk) h := by
  subst hp
  intro p e s m args below meth c C E H locs ls hS hR hL
  exact lv_icmp_lt C.1.1 C.1.2.1 d ht (fun q => K1 q p e s m args below meth c C E H locs ls hS hR hL) (fun q => K2 q p e s m args below meth c C E H locs ls hS hR hL)
theorem aw_if_lt {x : Int32} {z : Int} (tgt pc' : Nat) (d : decode M.2.1 pc = .ok (.ifCond .lt z, 3)) (hp : pc + 3 = pc') (ht : (pc : Int) + z = (tgt : Int)) (K1 : x < 0 → AW w M mc ms Q k n tgt loc stk h) (K2 : ¬ x < 0 → AW w M mc ms Q k n pc' loc stk h) : AW w M mc ms Q k n pc loc (.int x :: stk) h := by
  subst hp
  intro p e s m args below meth c C E H locs ls hS hR hL
  exact lv_if_lt C.1.1 C.1.2.1 d ht (fun q => K1 q p e s m args below meth c C E H locs ls hS hR hL) (fun q => K2 q p e s m args below meth c C E H locs ls hS hR hL)
theorem aw_icmp_ge {x y : Int32} {z : Int} (tgt pc' : Nat) (d : decode M.2.1 pc = .ok (.if_icmp .ge z, 3)) (hp : pc + 3 = pc') (ht : (pc : Int) + z = (tgt : Int)) (K1 : y ≤ x → AW w M mc ms Q k n tgt loc stk h) (K2 : ¬ y ≤ x → AW w M mc ms Q k n pc' loc stk h) : AW w M mc ms Q k n pc loc (.int y :: .int x :: stk) h := by
  subst hp
  intro p e s m args below meth c C E H locs ls hS hR hL
  exact lv_icmp_ge C.1.1 C.1.2.1 d ht (fun q => K1 q p e s m args below meth c C E H locs ls hS hR hL) (fun q => K2 q p e s m args below meth c C E H locs ls hS hR hL)
theorem aw_if_ge {x : Int32} {z : Int} (tgt pc' : Nat) (d : decode M.2.1 pc = .ok (.ifCond .ge z, 3)) (hp : pc + 3 = pc') (ht : (pc : Int) + z = (tgt : Int)) (K1 : 0 ≤ x → AW w M mc ms Q k n tgt loc stk h) (K2 : ¬ 0 ≤ x → AW w M mc ms Q k n pc' loc stk h) : AW w M mc ms Q k n pc loc (.int x :: stk) h := by
  subst hp
  intro p e s m args below meth c C E H locs ls hS hR hL
  exact lv_if_ge C.1.1 C.1.2.1 d ht (fun q => K1 q p e s m args below meth c C E H locs ls hS hR hL) (fun q => K2 q p e s m args below meth c C E H locs ls hS hR hL)
theorem aw_icmp_gt {x y : Int32} {z : Int} (tgt pc' : Nat) (d : decode M.2.1 pc = .ok (.if_icmp .gt z, 3)) (hp : pc + 3 = pc') (ht : (pc : Int) + z = (tgt : Int)) (K1 : y < x → AW w M mc ms Q k n tgt loc stk h) (K2 : ¬ y < x → AW w M mc ms Q k n pc' loc stk h) : AW w M mc ms Q k n pc loc (.int y :: .int x :: stk) h := by
  subst hp
  intro p e s m args below meth c C E H locs ls hS hR hL
  exact lv_icmp_gt C.1.1 C.1.2.1 d ht (fun q => K1 q p e s m args below meth c C E H locs ls hS hR hL) (fun q => K2 q p e s m args below meth c C E H locs ls hS hR hL)
theorem aw_if_gt {x : Int32} {z : Int} (tgt pc' : Nat) (d : decode M.2.1 pc = .ok (.ifCond .gt z, 3)) (hp : pc + 3 = pc') (ht : (pc : Int) + z = (tgt : Int)) (K1 : 0 < x → AW w M mc ms Q k n tgt loc stk h) (K2 : ¬ 0 < x → AW w M mc ms Q k n pc' loc stk h) : AW w M mc ms Q k n pc loc (.int x :: stk) h := by
  subst hp
  intro p e s m args below meth c C E H locs ls hS hR hL
  exact lv_if_gt C.1.1 C.1.2.1 d ht (fun q => K1 q p e s m args below meth c C E H locs ls hS hR hL) (fun q => K2 q p e s m args below meth c C E H locs ls hS hR hL)
theorem aw_icmp_le {x y : Int32} {z : Int} (tgt pc' : Nat) (d : decode M.2.1 pc = .ok (.if_icmp .le z, 3)) (hp : pc + 3 = pc') (ht : (pc : Int) + z = (tgt : Int)) (K1 : x ≤ y → AW w M mc ms Q k n tgt loc stk h) (K2 : ¬ x ≤ y → AW w M mc ms Q k n pc' loc stk h) : AW w M mc ms Q k n pc loc (.int y :: .int x :: stk) h := by
  subst hp
  intro p e s m args below meth c C E H locs ls hS hR hL
  exact lv_icmp_le C.1.1 C.1.2.1 d ht (fun q => K1 q p e s m args below meth c C E H locs ls hS hR hL) (fun q => K2 q p e s m args below meth c C E H locs ls hS hR hL)
theorem aw_if_le {x : Int32} {z : Int} (tgt pc' : Nat) (d : decode M.2.1 pc = .ok (.ifCond .le z, 3)) (hp : pc + 3 = pc') (ht : (pc : Int) + z = (tgt : Int)) (K1 : x ≤ 0 → AW w M mc ms Q k n tgt loc stk h) (K2 : ¬ x ≤ 0 → AW w M mc ms Q k n pc' loc stk h) : AW w M mc ms Q k n pc loc (.int x :: stk) h := by
  subst hp
  intro p e s m args below meth c C E H locs ls hS hR hL
  exact lv_if_le C.1.1 C.1.2.1 d ht (fun q => K1 q p e s m args below meth c C E H locs ls hS hR hL) (fun q => K2 q p e s m args below meth c C E H locs ls hS hR hL)
theorem aw_goto {z : Int} (tgt : Nat) (d : decode M.2.1 pc = .ok (.goto z, 3)) (ht : (pc : Int) + z = (tgt : Int)) (K : AW w M mc ms Q k n tgt loc stk h) : AW w M mc ms Q k n pc loc stk h := by
  intro p e s m args below meth c C E H locs ls hS hR hL
  exact lv_goto C.1.1 C.1.2.1 d ht (K p e s m args below meth c C E H locs ls hS hR hL)
theorem aw_tableOut {x : Int32} {dflt lo hi : Int} {offs : Array Int} {len : Nat} (tgt : Nat) (d : decode M.2.1 pc = .ok (.tableswitch dflt lo hi offs, len)) (hx : x.toInt < lo ∨ hi < x.toInt) (ht : (pc : Int) + dflt = (tgt : Int)) (K : AW w M mc ms Q k n tgt loc stk h) : AW w M mc ms Q k n pc loc (.int x :: stk) h := by
  intro p e s m args below meth c C E H locs ls hS hR hL
  exact lv_tableOut C.1.1 C.1.2.1 d hx ht (K p e s m args below meth c C E H locs ls hS hR hL)
theorem aw_tableIn {x : Int32} {dflt lo hi : Int} {offs : Array Int} {len : Nat} {off : Int} (tgt : Nat) (d : decode M.2.1 pc = .ok (.tableswitch dflt lo hi offs, len)) (h1 : ¬ x.toInt < lo) (h2 : ¬ hi < x.toInt) (ho : offs[(x.toInt - lo).toNat]? = some off) (ht : (pc : Int) + off = (tgt : Int)) (K : AW w M mc ms Q k n tgt loc stk h) : AW w M mc ms Q k n pc loc (.int x :: stk) h := by
  intro p e s m args below meth c C E H locs ls hS hR hL
  exact lv_tableIn C.1.1 C.1.2.1 d h1 h2 ho ht (K p e s m args below meth c C E H locs ls hS hR hL)
theorem aw_ldc {i : Nat} {v : Int32} (pc' : Nat) (d : decode M.2.1 pc = .ok (.ldc i, 2)) (hp : pc + 2 = pc') (hc : Cond.constant M.1.cls i v ∈ gd) (K : AW w M mc ms Q k n pc' loc (.int v :: stk) h) : AW w M mc ms Q k n pc loc stk h := by
  subst hp
  intro p e s m args below meth c C E H locs ls hS hR hL
  exact lv_ldc C.1.1 C.1.2.1 C.1.2.2.2.1 (C.1.2.2.2.2 _ hc) d (K p e s m args below meth c C E H locs ls hS hR hL)
theorem aw_ldcw {i : Nat} {v : Int32} (pc' : Nat) (d : decode M.2.1 pc = .ok (.ldc_w i, 3)) (hp : pc + 3 = pc') (hc : Cond.constant M.1.cls i v ∈ gd) (K : AW w M mc ms Q k n pc' loc (.int v :: stk) h) : AW w M mc ms Q k n pc loc stk h := by
  subst hp
  intro p e s m args below meth c C E H locs ls hS hR hL
  exact lv_ldcw C.1.1 C.1.2.1 C.1.2.2.2.1 (C.1.2.2.2.2 _ hc) d (K p e s m args below meth c C E H locs ls hS hR hL)
theorem aw_ldc2 {i : Nat} {v : Int64} (pc' : Nat) (d : decode M.2.1 pc = .ok (.ldc2_w i, 3)) (hp : pc + 3 = pc') (hc : Cond.constantLong M.1.cls i v ∈ gd) (K : AW w M mc ms Q k n pc' loc (.long v :: stk) h) : AW w M mc ms Q k n pc loc stk h := by
  subst hp
  intro p e s m args below meth c C E H locs ls hS hR hL
  exact lv_ldc2 C.1.1 C.1.2.1 C.1.2.2.2.1 (C.1.2.2.2.2 _ hc) d (K p e s m args below meth c C E H locs ls hS hR hL)
end AWR
