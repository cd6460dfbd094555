/-! ===== ints as integers ===== -/
theorem ti_lt {x y : Int32} : x < y ↔ x.toInt < y.toInt := Int32.lt_iff_toInt_lt
theorem ti_le {x y : Int32} : x ≤ y ↔ x.toInt ≤ y.toInt := Int32.le_iff_toInt_le
theorem ti_eq {x y : Int32} : x = y ↔ x.toInt = y.toInt := Int32.toInt_inj.symm
theorem ti_hi (x : Int32) : x.toInt < 2147483648 := by have := x.toInt_lt; omega
theorem ti_lo (x : Int32) : -2147483648 ≤ x.toInt := by have := x.le_toInt; omega
theorem ti_add {x y : Int32} (h1 : -2147483648 ≤ x.toInt + y.toInt) (h2 : x.toInt + y.toInt < 2147483648) : (x + y).toInt = x.toInt + y.toInt := by
  rw [Int32.toInt_add]; exact Int.bmod_eq_of_le (by omega) (by omega)
theorem ti_sub {x y : Int32} (h1 : -2147483648 ≤ x.toInt - y.toInt) (h2 : x.toInt - y.toInt < 2147483648) : (x - y).toInt = x.toInt - y.toInt := by
  rw [Int32.toInt_sub]; exact Int.bmod_eq_of_le (by omega) (by omega)
theorem ti_mul {x y : Int32} (h1 : -2147483648 ≤ x.toInt * y.toInt) (h2 : x.toInt * y.toInt < 2147483648) : (x * y).toInt = x.toInt * y.toInt := by
  rw [Int32.toInt_mul]; exact Int.bmod_eq_of_le (by omega) (by omega)
/-- an int between 0 and n - 1 -/
theorem ti_nI {x : Int32} {n : Nat} (h0 : 0 ≤ x.toInt) (h1 : x.toInt < n) (hn : n ≤ 2147483648) : ∃ j : Nat, j < n ∧ x = nI j := by
  refine ⟨x.toInt.toNat, by omega, ?_⟩
  rw [ti_eq, nI_toInt (by have := ti_hi x; omega)]
  omega
theorem vp_nI {j n : Nat} (h : j < n) (hn : n < 2147483648) : vp_in (nI j) n := vp_in_nI h hn
theorem cl_nI {j : Nat} (h : j < 2147483648) : (nI j).toNatClampNeg = j := nI_clamp h
/-- 1 or 0 -/
def b01 (p : Bool) : Int32 := if p then 1 else 0
theorem b01_or (p : Bool) : b01 p = 0 ∨ b01 p = 1 := by cases p <;> simp [b01]
theorem b01_ne {p : Bool} : (¬ b01 p = 0) ↔ p = true := by cases p <;> simp [b01]
theorem b01_eq {p : Bool} : (b01 p = 0) ↔ p = false := by cases p <;> simp [b01]
theorem t_0 : (0 : Int32).toInt = 0 := by decide
theorem t_1 : (1 : Int32).toInt = 1 := by decide
theorem t_2 : (2 : Int32).toInt = 2 := by decide
theorem t_3 : (3 : Int32).toInt = 3 := by decide
theorem t_4 : (4 : Int32).toInt = 4 := by decide
theorem t_5 : (5 : Int32).toInt = 5 := by decide
theorem t_6 : (6 : Int32).toInt = 6 := by decide
theorem t_7 : (7 : Int32).toInt = 7 := by decide
theorem t_8 : (8 : Int32).toInt = 8 := by decide
theorem t_9 : (9 : Int32).toInt = 9 := by decide
theorem t_10 : (10 : Int32).toInt = 10 := by decide
theorem t_12 : (12 : Int32).toInt = 12 := by decide
theorem t_15 : (15 : Int32).toInt = 15 := by decide
theorem t_16 : (16 : Int32).toInt = 16 := by decide
theorem t_20 : (20 : Int32).toInt = 20 := by decide
theorem t_21 : (21 : Int32).toInt = 21 := by decide
theorem t_24 : (24 : Int32).toInt = 24 := by decide
theorem t_26 : (26 : Int32).toInt = 26 := by decide
theorem t_30 : (30 : Int32).toInt = 30 := by decide
theorem t_31 : (31 : Int32).toInt = 31 := by decide
theorem t_32 : (32 : Int32).toInt = 32 := by decide
theorem t_33 : (33 : Int32).toInt = 33 := by decide
theorem t_39 : (39 : Int32).toInt = 39 := by decide
theorem t_40 : (40 : Int32).toInt = 40 := by decide
theorem t_41 : (41 : Int32).toInt = 41 := by decide
theorem t_45 : (45 : Int32).toInt = 45 := by decide
theorem t_46 : (46 : Int32).toInt = 46 := by decide
theorem t_47 : (47 : Int32).toInt = 47 := by decide
theorem t_48 : (48 : Int32).toInt = 48 := by decide
theorem t_57 : (57 : Int32).toInt = 57 := by decide
theorem t_60 : (60 : Int32).toInt = 60 := by decide
theorem t_63 : (63 : Int32).toInt = 63 := by decide
theorem t_65 : (65 : Int32).toInt = 65 := by decide
theorem t_90 : (90 : Int32).toInt = 90 := by decide
theorem t_97 : (97 : Int32).toInt = 97 := by decide
theorem t_100 : (100 : Int32).toInt = 100 := by decide
theorem t_122 : (122 : Int32).toInt = 122 := by decide
theorem t_200 : (200 : Int32).toInt = 200 := by decide
theorem t_230 : (230 : Int32).toInt = 230 := by decide
theorem t_240 : (240 : Int32).toInt = 240 := by decide
theorem t_255 : (255 : Int32).toInt = 255 := by decide
theorem t_400 : (400 : Int32).toInt = 400 := by decide
theorem t_440 : (440 : Int32).toInt = 440 := by decide
theorem t_441 : (441 : Int32).toInt = 441 := by decide
theorem t_450 : (450 : Int32).toInt = 450 := by decide
theorem t_480 : (480 : Int32).toInt = 480 := by decide
theorem t_1580 : (1580 : Int32).toInt = 1580 := by decide
theorem t_1600 : (1600 : Int32).toInt = 1600 := by decide
theorem t_10000 : (10000 : Int32).toInt = 10000 := by decide
theorem t_131071 : (131071 : Int32).toInt = 131071 := by decide
theorem t_131072 : (131072 : Int32).toInt = 131072 := by decide
theorem t_1048576 : (1048576 : Int32).toInt = 1048576 := by decide
theorem t_1000000000 : (1000000000 : Int32).toInt = 1000000000 := by decide
theorem tm_1 : (-1 : Int32).toInt = -1 := by decide
theorem tm_100001 : (-100001 : Int32).toInt = -100001 := by decide
theorem tm_100002 : (-100002 : Int32).toInt = -100002 := by decide
theorem tm_100003 : (-100003 : Int32).toInt = -100003 := by decide
theorem tm_100004 : (-100004 : Int32).toInt = -100004 := by decide
