/-! ### Natural numbers as ints -/
theorem n_toInt {a : Nat} (h : a < 2147483648) : (Int32.ofNat a).toInt = a := Int32.toInt_ofNat_of_lt (by simpa using h)
theorem n_le {a b : Nat} (h1 : a < 2147483648) (h2 : b < 2147483648) : (Int32.ofNat a ≤ Int32.ofNat b) = (a ≤ b) := propext (by
  rw [Int32.le_iff_toInt_le, n_toInt h1, n_toInt h2]; omega)
theorem n_lt {a b : Nat} (h1 : a < 2147483648) (h2 : b < 2147483648) : (Int32.ofNat a < Int32.ofNat b) = (a < b) := propext (by
  rw [Int32.lt_iff_toInt_lt, n_toInt h1, n_toInt h2]; omega)
theorem n_eq {a b : Nat} (h1 : a < 2147483648) (h2 : b < 2147483648) : (Int32.ofNat a = Int32.ofNat b) = (a = b) := propext (by
  constructor
  · intro h
    have := congrArg Int32.toInt h
    rw [n_toInt h1, n_toInt h2] at this
    omega
  · intro h; rw [h])
theorem n_add (a b : Nat) : Int32.ofNat a + Int32.ofNat b = Int32.ofNat (a + b) := (Int32.ofNat_add a b).symm
theorem n_mul (a b : Nat) : Int32.ofNat a * Int32.ofNat b = Int32.ofNat (a * b) := (Int32.ofNat_mul a b).symm
theorem n_sub {a b : Nat} (h : b ≤ a) : Int32.ofNat a - Int32.ofNat b = Int32.ofNat (a - b) := by
  have : Int32.ofNat a = Int32.ofNat (a - b) + Int32.ofNat b := by rw [n_add, Nat.sub_add_cancel h]
  rw [this, Int32.add_sub_cancel]
theorem n_nat {a : Nat} (h : a < 2147483648) : (Int32.ofNat a).toNatClampNeg = a := by
  unfold Int32.toNatClampNeg
  have := n_toInt h
  rw [this]; rfl
theorem n_in {a n : Nat} (h : a < 2147483648) : (md_in (Int32.ofNat a) n = true) = (a < n) := propext (by
  unfold md_in
  rw [n_nat h]
  have : ¬ Int32.ofNat a < 0 := by
    rw [show (0 : Int32) = Int32.ofNat 0 from rfl, n_lt h (by omega)]; omega
  simp [this])
theorem n_1 : Int32.ofInt 1 = Int32.ofNat 1 := rfl
theorem n_0 : Int32.ofInt 0 = Int32.ofNat 0 := rfl
theorem n_2 : Int32.ofInt 2 = Int32.ofNat 2 := rfl
theorem n_3 : Int32.ofInt 3 = Int32.ofNat 3 := rfl
theorem n_4 : Int32.ofInt 4 = Int32.ofNat 4 := rfl
theorem n_5 : Int32.ofInt 5 = Int32.ofNat 5 := rfl
theorem n_b1 : md_01 (Int32.ofInt 1) = true := rfl
theorem n_b0 : md_01 (Int32.ofInt 0) = true := rfl
theorem n_bb {x : Int32} (h : x = 0 ∨ x = 1) : md_01 x = true := by rcases h with rfl | rfl <;> rfl
theorem n_c6 : (Int8.ofInt (6)).toInt32 = Int32.ofNat 6 := by decide
theorem n_c7 : (Int8.ofInt (7)).toInt32 = Int32.ofNat 7 := by decide
theorem n_c8 : (Int8.ofInt (8)).toInt32 = Int32.ofNat 8 := by decide
theorem n_c9 : (Int8.ofInt (9)).toInt32 = Int32.ofNat 9 := by decide
theorem n_c10 : (Int8.ofInt (10)).toInt32 = Int32.ofNat 10 := by decide
theorem n_c11 : (Int8.ofInt (11)).toInt32 = Int32.ofNat 11 := by decide
theorem n_c12 : (Int8.ofInt (12)).toInt32 = Int32.ofNat 12 := by decide
theorem n_c13 : (Int8.ofInt (13)).toInt32 = Int32.ofNat 13 := by decide
theorem n_c14 : (Int8.ofInt (14)).toInt32 = Int32.ofNat 14 := by decide
theorem n_c15 : (Int8.ofInt (15)).toInt32 = Int32.ofNat 15 := by decide
theorem n_c16 : (Int8.ofInt (16)).toInt32 = Int32.ofNat 16 := by decide
theorem n_c17 : (Int8.ofInt (17)).toInt32 = Int32.ofNat 17 := by decide
theorem n_c18 : (Int8.ofInt (18)).toInt32 = Int32.ofNat 18 := by decide
theorem n_c19 : (Int8.ofInt (19)).toInt32 = Int32.ofNat 19 := by decide
theorem n_c20 : (Int8.ofInt (20)).toInt32 = Int32.ofNat 20 := by decide
theorem n_c21 : (Int8.ofInt (21)).toInt32 = Int32.ofNat 21 := by decide
theorem n_c22 : (Int8.ofInt (22)).toInt32 = Int32.ofNat 22 := by decide
theorem n_c23 : (Int8.ofInt (23)).toInt32 = Int32.ofNat 23 := by decide
theorem n_c24 : (Int8.ofInt (24)).toInt32 = Int32.ofNat 24 := by decide
theorem n_c25 : (Int8.ofInt (25)).toInt32 = Int32.ofNat 25 := by decide
theorem n_c26 : (Int8.ofInt (26)).toInt32 = Int32.ofNat 26 := by decide
theorem n_c27 : (Int8.ofInt (27)).toInt32 = Int32.ofNat 27 := by decide
theorem n_c28 : (Int8.ofInt (28)).toInt32 = Int32.ofNat 28 := by decide
theorem n_c29 : (Int8.ofInt (29)).toInt32 = Int32.ofNat 29 := by decide
theorem n_c30 : (Int8.ofInt (30)).toInt32 = Int32.ofNat 30 := by decide
theorem n_c31 : (Int8.ofInt (31)).toInt32 = Int32.ofNat 31 := by decide
theorem n_c32 : (Int8.ofInt (32)).toInt32 = Int32.ofNat 32 := by decide
theorem n_c33 : (Int8.ofInt (33)).toInt32 = Int32.ofNat 33 := by decide
theorem n_c34 : (Int8.ofInt (34)).toInt32 = Int32.ofNat 34 := by decide
theorem n_c35 : (Int8.ofInt (35)).toInt32 = Int32.ofNat 35 := by decide
theorem n_c36 : (Int8.ofInt (36)).toInt32 = Int32.ofNat 36 := by decide
theorem n_c37 : (Int8.ofInt (37)).toInt32 = Int32.ofNat 37 := by decide
theorem n_c38 : (Int8.ofInt (38)).toInt32 = Int32.ofNat 38 := by decide
theorem n_c39 : (Int8.ofInt (39)).toInt32 = Int32.ofNat 39 := by decide
theorem n_c40 : (Int8.ofInt (40)).toInt32 = Int32.ofNat 40 := by decide
theorem n_c41 : (Int8.ofInt (41)).toInt32 = Int32.ofNat 41 := by decide
theorem n_c42 : (Int8.ofInt (42)).toInt32 = Int32.ofNat 42 := by decide
theorem n_c43 : (Int8.ofInt (43)).toInt32 = Int32.ofNat 43 := by decide
theorem n_c44 : (Int8.ofInt (44)).toInt32 = Int32.ofNat 44 := by decide
theorem n_c45 : (Int8.ofInt (45)).toInt32 = Int32.ofNat 45 := by decide
theorem n_c46 : (Int8.ofInt (46)).toInt32 = Int32.ofNat 46 := by decide
theorem n_c47 : (Int8.ofInt (47)).toInt32 = Int32.ofNat 47 := by decide
theorem n_c48 : (Int8.ofInt (48)).toInt32 = Int32.ofNat 48 := by decide
theorem n_c49 : (Int8.ofInt (49)).toInt32 = Int32.ofNat 49 := by decide
theorem n_c50 : (Int8.ofInt (50)).toInt32 = Int32.ofNat 50 := by decide
theorem n_c51 : (Int8.ofInt (51)).toInt32 = Int32.ofNat 51 := by decide
theorem n_c52 : (Int8.ofInt (52)).toInt32 = Int32.ofNat 52 := by decide
theorem n_c53 : (Int8.ofInt (53)).toInt32 = Int32.ofNat 53 := by decide
theorem n_c54 : (Int8.ofInt (54)).toInt32 = Int32.ofNat 54 := by decide
theorem n_c55 : (Int8.ofInt (55)).toInt32 = Int32.ofNat 55 := by decide
theorem n_c56 : (Int8.ofInt (56)).toInt32 = Int32.ofNat 56 := by decide
theorem n_c57 : (Int8.ofInt (57)).toInt32 = Int32.ofNat 57 := by decide
theorem n_c58 : (Int8.ofInt (58)).toInt32 = Int32.ofNat 58 := by decide
theorem n_c59 : (Int8.ofInt (59)).toInt32 = Int32.ofNat 59 := by decide
theorem n_c60 : (Int8.ofInt (60)).toInt32 = Int32.ofNat 60 := by decide
theorem n_c61 : (Int8.ofInt (61)).toInt32 = Int32.ofNat 61 := by decide
theorem n_c62 : (Int8.ofInt (62)).toInt32 = Int32.ofNat 62 := by decide
theorem n_c63 : (Int8.ofInt (63)).toInt32 = Int32.ofNat 63 := by decide
theorem n_c64 : (Int8.ofInt (64)).toInt32 = Int32.ofNat 64 := by decide
theorem n_c65 : (Int8.ofInt (65)).toInt32 = Int32.ofNat 65 := by decide
theorem n_c66 : (Int8.ofInt (66)).toInt32 = Int32.ofNat 66 := by decide
theorem n_c67 : (Int8.ofInt (67)).toInt32 = Int32.ofNat 67 := by decide
theorem n_c68 : (Int8.ofInt (68)).toInt32 = Int32.ofNat 68 := by decide
theorem n_c69 : (Int8.ofInt (69)).toInt32 = Int32.ofNat 69 := by decide
theorem n_c70 : (Int8.ofInt (70)).toInt32 = Int32.ofNat 70 := by decide
theorem n_c71 : (Int8.ofInt (71)).toInt32 = Int32.ofNat 71 := by decide
theorem n_c72 : (Int8.ofInt (72)).toInt32 = Int32.ofNat 72 := by decide
theorem n_c73 : (Int8.ofInt (73)).toInt32 = Int32.ofNat 73 := by decide
theorem n_c74 : (Int8.ofInt (74)).toInt32 = Int32.ofNat 74 := by decide
theorem n_c75 : (Int8.ofInt (75)).toInt32 = Int32.ofNat 75 := by decide
theorem n_c76 : (Int8.ofInt (76)).toInt32 = Int32.ofNat 76 := by decide
theorem n_c77 : (Int8.ofInt (77)).toInt32 = Int32.ofNat 77 := by decide
theorem n_c78 : (Int8.ofInt (78)).toInt32 = Int32.ofNat 78 := by decide
theorem n_c79 : (Int8.ofInt (79)).toInt32 = Int32.ofNat 79 := by decide
theorem n_c80 : (Int8.ofInt (80)).toInt32 = Int32.ofNat 80 := by decide
theorem n_c81 : (Int8.ofInt (81)).toInt32 = Int32.ofNat 81 := by decide
theorem n_c82 : (Int8.ofInt (82)).toInt32 = Int32.ofNat 82 := by decide
theorem n_c83 : (Int8.ofInt (83)).toInt32 = Int32.ofNat 83 := by decide
theorem n_c84 : (Int8.ofInt (84)).toInt32 = Int32.ofNat 84 := by decide
theorem n_c85 : (Int8.ofInt (85)).toInt32 = Int32.ofNat 85 := by decide
theorem n_c86 : (Int8.ofInt (86)).toInt32 = Int32.ofNat 86 := by decide
theorem n_c87 : (Int8.ofInt (87)).toInt32 = Int32.ofNat 87 := by decide
theorem n_c88 : (Int8.ofInt (88)).toInt32 = Int32.ofNat 88 := by decide
theorem n_c89 : (Int8.ofInt (89)).toInt32 = Int32.ofNat 89 := by decide
theorem n_c90 : (Int8.ofInt (90)).toInt32 = Int32.ofNat 90 := by decide
theorem n_c91 : (Int8.ofInt (91)).toInt32 = Int32.ofNat 91 := by decide
theorem n_c92 : (Int8.ofInt (92)).toInt32 = Int32.ofNat 92 := by decide
theorem n_c93 : (Int8.ofInt (93)).toInt32 = Int32.ofNat 93 := by decide
theorem n_c94 : (Int8.ofInt (94)).toInt32 = Int32.ofNat 94 := by decide
theorem n_c95 : (Int8.ofInt (95)).toInt32 = Int32.ofNat 95 := by decide
theorem n_c96 : (Int8.ofInt (96)).toInt32 = Int32.ofNat 96 := by decide
theorem n_c97 : (Int8.ofInt (97)).toInt32 = Int32.ofNat 97 := by decide
theorem n_c98 : (Int8.ofInt (98)).toInt32 = Int32.ofNat 98 := by decide
theorem n_c99 : (Int8.ofInt (99)).toInt32 = Int32.ofNat 99 := by decide
theorem n_c100 : (Int8.ofInt (100)).toInt32 = Int32.ofNat 100 := by decide
theorem n_c101 : (Int8.ofInt (101)).toInt32 = Int32.ofNat 101 := by decide
theorem n_c102 : (Int8.ofInt (102)).toInt32 = Int32.ofNat 102 := by decide
theorem n_c103 : (Int8.ofInt (103)).toInt32 = Int32.ofNat 103 := by decide
theorem n_c104 : (Int8.ofInt (104)).toInt32 = Int32.ofNat 104 := by decide
theorem n_c105 : (Int8.ofInt (105)).toInt32 = Int32.ofNat 105 := by decide
theorem n_c106 : (Int8.ofInt (106)).toInt32 = Int32.ofNat 106 := by decide
theorem n_c107 : (Int8.ofInt (107)).toInt32 = Int32.ofNat 107 := by decide
theorem n_c108 : (Int8.ofInt (108)).toInt32 = Int32.ofNat 108 := by decide
theorem n_c109 : (Int8.ofInt (109)).toInt32 = Int32.ofNat 109 := by decide
theorem n_c110 : (Int8.ofInt (110)).toInt32 = Int32.ofNat 110 := by decide
theorem n_c111 : (Int8.ofInt (111)).toInt32 = Int32.ofNat 111 := by decide
theorem n_c112 : (Int8.ofInt (112)).toInt32 = Int32.ofNat 112 := by decide
theorem n_c113 : (Int8.ofInt (113)).toInt32 = Int32.ofNat 113 := by decide
theorem n_c114 : (Int8.ofInt (114)).toInt32 = Int32.ofNat 114 := by decide
theorem n_c115 : (Int8.ofInt (115)).toInt32 = Int32.ofNat 115 := by decide
theorem n_c116 : (Int8.ofInt (116)).toInt32 = Int32.ofNat 116 := by decide
theorem n_c117 : (Int8.ofInt (117)).toInt32 = Int32.ofNat 117 := by decide
theorem n_c118 : (Int8.ofInt (118)).toInt32 = Int32.ofNat 118 := by decide
theorem n_c119 : (Int8.ofInt (119)).toInt32 = Int32.ofNat 119 := by decide
theorem n_c120 : (Int8.ofInt (120)).toInt32 = Int32.ofNat 120 := by decide
theorem n_c121 : (Int8.ofInt (121)).toInt32 = Int32.ofNat 121 := by decide
theorem n_c122 : (Int8.ofInt (122)).toInt32 = Int32.ofNat 122 := by decide
theorem n_c123 : (Int8.ofInt (123)).toInt32 = Int32.ofNat 123 := by decide
theorem n_c124 : (Int8.ofInt (124)).toInt32 = Int32.ofNat 124 := by decide
theorem n_c125 : (Int8.ofInt (125)).toInt32 = Int32.ofNat 125 := by decide
theorem n_c126 : (Int8.ofInt (126)).toInt32 = Int32.ofNat 126 := by decide
theorem n_c127 : (Int8.ofInt (127)).toInt32 = Int32.ofNat 127 := by decide
theorem n_z : (0 : Int32) = Int32.ofNat 0 := rfl
theorem n_leT {a b : Nat} (h : a ≤ b) (h2 : b < 2147483648) : Int32.ofNat a ≤ Int32.ofNat b := by rw [n_le (by omega) h2]; exact h
theorem n_leF {a b : Nat} (h : b < a) (h2 : a < 2147483648) : ¬ Int32.ofNat a ≤ Int32.ofNat b := by rw [n_le h2 (by omega)]; omega
theorem n_ltT {a b : Nat} (h : a < b) (h2 : b < 2147483648) : Int32.ofNat a < Int32.ofNat b := by rw [n_lt (by omega) h2]; exact h
theorem n_ltF {a b : Nat} (h : b ≤ a) (h2 : a < 2147483648) : ¬ Int32.ofNat a < Int32.ofNat b := by rw [n_lt h2 (by omega)]; omega
theorem n_eqT {a b : Nat} (h : a = b) : Int32.ofNat a = Int32.ofNat b := by rw [h]
theorem n_eqF {a b : Nat} (h : a ≠ b) (h1 : a < 2147483648) (h2 : b < 2147483648) : ¬ Int32.ofNat a = Int32.ofNat b := by rw [n_eq h1 h2]; exact h
theorem n_ne0 {x : Nat} (h : 0 < x) (h2 : x < 2147483648) : ¬ Int32.ofNat x = 0 := n_eqF (b := 0) (by omega) h2 (by omega)
theorem n_nn {x : Nat} (h2 : x < 2147483648) : ¬ Int32.ofNat x < 0 := n_ltF (b := 0) (by omega) h2
theorem n_m1 : Int32.ofInt (-1) < 0 := by decide
