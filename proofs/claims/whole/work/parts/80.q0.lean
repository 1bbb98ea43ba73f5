/-! The pure layer: numbers -/
/-- an int by its number -/
abbrev I (z : Int) : Int32 := Int32.ofInt z
theorem I_toInt (x : Int32) : x = I x.toInt := (Int32.ofInt_toInt x).symm
theorem I_of {z : Int} (h1 : -2147483648 ≤ z) (h2 : z < 2147483648) : (I z).toInt = z := Int32.toInt_ofInt_of_le h1 h2
theorem I_lo (x : Int32) : -2147483648 ≤ x.toInt := Int32.le_toInt x
theorem I_hi (x : Int32) : x.toInt < 2147483648 := Int32.toInt_lt x
theorem I_add (a b : Int) : I a + I b = I (a + b) := (Int32.ofInt_add ..).symm
theorem I_sub (a b : Int) : I a - I b = I (a - b) := (Int32.ofInt_sub ..).symm
theorem I_mul (a b : Int) : I a * I b = I (a * b) := (Int32.ofInt_mul ..).symm
theorem I_le {a b : Int} (h1 : -2147483648 ≤ a) (h2 : a < 2147483648) (h3 : -2147483648 ≤ b) (h4 : b < 2147483648) : (I a ≤ I b) = (a ≤ b) := by
  rw [Int32.le_iff_toInt_le, I_of h1 h2, I_of h3 h4]
theorem I_lt {a b : Int} (h1 : -2147483648 ≤ a) (h2 : a < 2147483648) (h3 : -2147483648 ≤ b) (h4 : b < 2147483648) : (I a < I b) = (a < b) := by
  rw [Int32.lt_iff_toInt_lt, I_of h1 h2, I_of h3 h4]
theorem I_eq {a b : Int} (h1 : -2147483648 ≤ a) (h2 : a < 2147483648) (h3 : -2147483648 ≤ b) (h4 : b < 2147483648) : (I a = I b) = (a = b) := by
  rw [← Int32.toInt_inj, I_of h1 h2, I_of h3 h4]
theorem I_cl {a : Int} (h1 : 0 ≤ a) (h2 : a < 2147483648) : (I a).toNatClampNeg = a.toNat := by
  show (I a).toInt.toNat = _
  rw [I_of (by omega) h2]
theorem I_in {a : Int} {n : Nat} (h1 : -2147483648 ≤ a) (h2 : a < 2147483648) : vp_in (I a) n = (0 ≤ a ∧ a < n) := by
  unfold vp_in
  have h0 : ((I a) < 0) = (a < 0) := I_lt (b := 0) h1 h2 (by decide) (by decide)
  rw [h0]
  by_cases h : a < 0
  · simp [h]; omega
  · rw [I_cl (by omega) h2]
    simp [h]; omega
theorem I_0 : (0 : Int32) = I 0 := rfl
theorem I_1 : (1 : Int32) = I 1 := rfl
theorem I_2 : (2 : Int32) = I 2 := rfl
theorem I_3 : (3 : Int32) = I 3 := rfl
theorem I_4 : (4 : Int32) = I 4 := rfl
theorem I_5 : (5 : Int32) = I 5 := rfl
theorem I_6 : (6 : Int32) = I 6 := rfl
theorem I_7 : (7 : Int32) = I 7 := rfl
theorem I_8 : (8 : Int32) = I 8 := rfl
theorem I_9 : (9 : Int32) = I 9 := rfl
theorem I_10 : (10 : Int32) = I 10 := rfl
theorem I_11 : (11 : Int32) = I 11 := rfl
theorem I_12 : (12 : Int32) = I 12 := rfl
theorem I_13 : (13 : Int32) = I 13 := rfl
theorem I_14 : (14 : Int32) = I 14 := rfl
theorem I_15 : (15 : Int32) = I 15 := rfl
theorem I_20 : (20 : Int32) = I 20 := rfl
theorem I_50 : (50 : Int32) = I 50 := rfl
theorem I_100 : (100 : Int32) = I 100 := rfl
theorem I_200 : (200 : Int32) = I 200 := rfl
theorem I_256 : (256 : Int32) = I 256 := rfl
theorem I_300 : (300 : Int32) = I 300 := rfl
theorem I_1000 : (1000 : Int32) = I 1000 := rfl
theorem I_2000 : (2000 : Int32) = I 2000 := rfl
theorem I_1048576 : (1048576 : Int32) = I 1048576 := rfl
theorem I_m1 : (-1 : Int32) = I (-1) := rfl
theorem I_m2 : (-2 : Int32) = I (-2) := rfl
theorem I_n1 : - I 1 = I (-1) := rfl
theorem I_n2 : - I 2 = I (-2) := rfl
theorem I_nat (n : Nat) : Int32.ofNat n = I (n : Int) := rfl
example (a : Int) (h : 0 ≤ a) (h2 : a < 200) : (200 : Int32) ≤ I a + 1 ↔ 200 ≤ a + 1 := by
  simp (disch := omega) only [I_m1, I_m2, I_0, I_1, I_2, I_3, I_4, I_5, I_6, I_7, I_8, I_9, I_10, I_11, I_12, I_13, I_14, I_15, I_20, I_50, I_100, I_200, I_256, I_300, I_1000, I_2000, I_1048576, I_n1, I_n2, I_nat, I_add, I_sub, I_mul, I_le, I_lt, I_eq, I_cl, I_in, forall_eq, Int.not_le, Int.not_lt]
