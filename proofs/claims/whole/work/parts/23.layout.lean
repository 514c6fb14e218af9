/-! ===== where the cells lie after both constructors (printed by wip/gen/out23.py) ===== -/
def LHt : List Nat := [119, 110, 110, 50, 50, 50, 111, 111, 111, 119, 110, 119, 119, 119, 119, 119, 0, 1, 6, 100, 100, 100, 100, 100, 100, 100, 100, 2, 100, 100, 100, 100, 100, 100, 100, 3, 100, 100, 100, 100, 100, 100, 3, 100, 100, 100, 100, 100, 100, 4, 100, 5, 100, 5, 100, 5, 100, 5, 100, 7, 105, 100, 100, 100, 100, 100, 100, 100, 100, 100, 1, 6, 100, 100, 100, 100, 100, 100, 100, 100, 2, 100, 100, 100, 100, 100, 100, 100, 3, 100, 100, 100, 100, 100, 100, 3, 100, 100, 100, 100, 100, 100, 4, 100, 5, 100, 5, 100, 5, 100, 5, 100, 7, 105, 100, 100, 100, 100, 100, 100, 100, 100, 100, 6, 100, 100, 100, 100, 100, 100, 100, 100, 104, 101, 8, 9, 100, 100, 2, 100, 100, 100, 100, 100, 100, 100, 100, 3, 100, 100, 100, 100, 100, 100, 6, 100, 100, 100, 100, 100, 100, 100, 100, 6, 100, 100, 100, 100, 100, 100, 100, 100, 6, 100, 100, 100, 100, 100, 100, 100, 100, 6, 100, 100, 100, 100, 100, 100, 100, 100, 6, 100, 100, 100, 100, 100, 100, 100, 100, 6, 100, 100, 100, 100, 100, 100, 100, 100, 10, 100, 100, 100, 100, 100, 100, 100, 100, 100, 100, 100, 100, 100, 100, 100, 100, 100, 100, 100, 100, 100, 100, 100, 100, 100, 100, 100, 100, 100, 100, 100, 100, 100, 100, 100, 100, 100, 100, 100, 100, 100]
def LLt : List Nat := [0, 4, 4, 0, 0, 0, 85, 67, 10, 0, 0, 0, 0, 0, 0, 0, 0, 0, 0, 64, 64, 64, 10, 10, 10, 10, 10, 0, 400, 16, 16, 16, 16, 10, 32, 0, 16, 16, 16, 16, 16, 16, 0, 16, 16, 16, 16, 16, 16, 0, 8, 0, 12, 0, 12, 0, 9, 0, 10, 0, 8, 4, 4, 4, 4, 4, 4, 4, 4, 600, 0, 0, 64, 64, 64, 10, 10, 10, 10, 10, 0, 400, 16, 16, 16, 16, 10, 32, 0, 16, 16, 16, 16, 16, 16, 0, 16, 16, 16, 16, 16, 16, 0, 8, 0, 12, 0, 12, 0, 9, 0, 10, 0, 8, 4, 4, 4, 4, 4, 4, 4, 4, 600, 0, 64, 64, 64, 10, 10, 10, 10, 10, 6, 400, 0, 0, 401, 401, 0, 400, 16, 16, 16, 16, 10, 32, 32, 0, 16, 16, 16, 16, 16, 16, 0, 64, 64, 64, 10, 10, 10, 10, 10, 0, 64, 64, 64, 10, 10, 10, 10, 10, 0, 64, 64, 64, 10, 10, 10, 10, 10, 0, 64, 64, 64, 10, 10, 10, 10, 10, 0, 64, 64, 64, 10, 10, 10, 10, 10, 0, 64, 64, 64, 10, 10, 10, 10, 10, 0, 247, 1482, 247, 10, 600, 400, 138, 2, 48, 48, 48, 48, 1200, 1200, 40, 128, 16, 16, 96, 10, 420, 64, 64, 64, 64, 8, 12, 169, 8, 4, 4, 4, 4509, 12, 9, 3, 8, 10, 7776, 5, 2400]
def LRt : List (List Nat) := [[], [], [], [6], [7], [8], [], [], [], [], [], [], [], [], [], [], [17, 70, 0, 123, 132, 0, 0, 133, 0, 134, 147], [18, 27, 35, 42, 49, 0, 69], [0, 19, 20, 21, 22, 23, 24, 25, 26], [], [], [], [], [], [], [], [], [28, 29, 30, 31, 32, 0, 0, 33, 34], [], [], [], [], [], [], [], [36, 37, 38, 39, 40, 41], [], [], [], [], [], [], [43, 44, 45, 46, 47, 48], [], [], [], [], [], [], [50, 51, 53, 55, 57, 59], [], [52], [], [54], [], [56], [], [58], [], [60], [61, 62, 63, 64, 65, 66, 67, 68], [], [], [], [], [], [], [], [], [], [71, 80, 88, 95, 102, 0, 122], [0, 72, 73, 74, 75, 76, 77, 78, 79], [], [], [], [], [], [], [], [], [81, 82, 83, 84, 85, 0, 0, 86, 87], [], [], [], [], [], [], [], [89, 90, 91, 92, 93, 94], [], [], [], [], [], [], [96, 97, 98, 99, 100, 101], [], [], [], [], [], [], [103, 104, 106, 108, 110, 112], [], [105], [], [107], [], [109], [], [111], [], [113], [114, 115, 116, 117, 118, 119, 120, 121], [], [], [], [], [], [], [], [], [], [0, 124, 125, 126, 127, 128, 129, 130, 131], [], [], [], [], [], [], [], [], [154, 163, 172, 181, 190, 199], [], [135, 138, 146], [136, 137], [], [], [139, 140, 141, 142, 143, 0, 0, 144, 145], [], [], [], [], [], [], [], [], [148, 149, 150, 151, 152, 153], [], [], [], [], [], [], [0, 155, 156, 157, 158, 159, 160, 161, 162], [], [], [], [], [], [], [], [], [0, 164, 165, 166, 167, 168, 169, 170, 171], [], [], [], [], [], [], [], [], [0, 173, 174, 175, 176, 177, 178, 179, 180], [], [], [], [], [], [], [], [], [0, 182, 183, 184, 185, 186, 187, 188, 189], [], [], [], [], [], [], [], [], [0, 191, 192, 193, 194, 195, 196, 197, 198], [], [], [], [], [], [], [], [], [0, 200, 201, 202, 203, 204, 205, 206, 207], [], [], [], [], [], [], [], [], [0, 209, 210, 0, 211, 0, 0, 212, 213, 214, 0, 0, 0, 0, 0, 215, 216, 217, 218, 219, 220, 221, 222, 0, 0, 0, 223, 0, 0, 0, 0, 0, 0, 224, 0, 225, 226, 0, 227, 228, 229, 230, 231, 232, 233, 234, 0, 235, 236, 237, 238, 239, 240, 241, 0, 242, 0, 243, 244, 0, 245, 0, 246, 247, 248, 0, 0, 0, 249], [], [], [], [], [], [], [], [], [], [], [], [], [], [], [], [], [], [], [], [], [], [], [], [], [], [], [], [], [], [], [], [], [], [], [], [], [], [], [], [], []]
def Lay (z : xZ) : Prop := 250 ≤ zn z ∧ ∀ a, a < 250 → zh z a = LHt.getD a 0 ∧ (a ≠ 10 → zl z a = LLt.getD a 0) ∧ ∀ k, k < 128 → zr z a k = (LRt.getD a []).getD k 0
theorem hh_1 {z : xZ} (hz : Lay z) : zh z 1 = 110 := (hz.2 1 (by decide)).1
theorem hc_1 {z : xZ} (hz : Lay z) : ((zl z 1 : Nat) : Int) = 4 := by rw [(hz.2 1 (by decide)).2.1 (by decide)]; rfl
theorem hh_2 {z : xZ} (hz : Lay z) : zh z 2 = 110 := (hz.2 2 (by decide)).1
theorem hc_2 {z : xZ} (hz : Lay z) : ((zl z 2 : Nat) : Int) = 4 := by rw [(hz.2 2 (by decide)).2.1 (by decide)]; rfl
theorem hh_3 {z : xZ} (hz : Lay z) : zh z 3 = 50 := (hz.2 3 (by decide)).1
theorem hr_3_0 {z : xZ} (hz : Lay z) : zr z 3 0 = 6 := (hz.2 3 (by decide)).2.2 0 (by decide)
theorem hh_4 {z : xZ} (hz : Lay z) : zh z 4 = 50 := (hz.2 4 (by decide)).1
theorem hr_4_0 {z : xZ} (hz : Lay z) : zr z 4 0 = 7 := (hz.2 4 (by decide)).2.2 0 (by decide)
theorem hh_5 {z : xZ} (hz : Lay z) : zh z 5 = 50 := (hz.2 5 (by decide)).1
theorem hr_5_0 {z : xZ} (hz : Lay z) : zr z 5 0 = 8 := (hz.2 5 (by decide)).2.2 0 (by decide)
theorem hh_6 {z : xZ} (hz : Lay z) : zh z 6 = 111 := (hz.2 6 (by decide)).1
theorem hc_6 {z : xZ} (hz : Lay z) : ((zl z 6 : Nat) : Int) = 85 := by rw [(hz.2 6 (by decide)).2.1 (by decide)]; rfl
theorem hh_7 {z : xZ} (hz : Lay z) : zh z 7 = 111 := (hz.2 7 (by decide)).1
theorem hc_7 {z : xZ} (hz : Lay z) : ((zl z 7 : Nat) : Int) = 67 := by rw [(hz.2 7 (by decide)).2.1 (by decide)]; rfl
theorem hh_8 {z : xZ} (hz : Lay z) : zh z 8 = 111 := (hz.2 8 (by decide)).1
theorem hc_8 {z : xZ} (hz : Lay z) : ((zl z 8 : Nat) : Int) = 10 := by rw [(hz.2 8 (by decide)).2.1 (by decide)]; rfl
theorem hh_10 {z : xZ} (hz : Lay z) : zh z 10 = 110 := (hz.2 10 (by decide)).1
theorem hh_16 {z : xZ} (hz : Lay z) : zh z 16 = 0 := (hz.2 16 (by decide)).1
theorem hr_16_0 {z : xZ} (hz : Lay z) : zr z 16 0 = 17 := (hz.2 16 (by decide)).2.2 0 (by decide)
theorem hr_16_1 {z : xZ} (hz : Lay z) : zr z 16 1 = 70 := (hz.2 16 (by decide)).2.2 1 (by decide)
theorem hr_16_3 {z : xZ} (hz : Lay z) : zr z 16 3 = 123 := (hz.2 16 (by decide)).2.2 3 (by decide)
theorem hr_16_4 {z : xZ} (hz : Lay z) : zr z 16 4 = 132 := (hz.2 16 (by decide)).2.2 4 (by decide)
theorem hr_16_7 {z : xZ} (hz : Lay z) : zr z 16 7 = 133 := (hz.2 16 (by decide)).2.2 7 (by decide)
theorem hr_16_9 {z : xZ} (hz : Lay z) : zr z 16 9 = 134 := (hz.2 16 (by decide)).2.2 9 (by decide)
theorem hr_16_10 {z : xZ} (hz : Lay z) : zr z 16 10 = 147 := (hz.2 16 (by decide)).2.2 10 (by decide)
theorem hh_17 {z : xZ} (hz : Lay z) : zh z 17 = 1 := (hz.2 17 (by decide)).1
theorem hr_17_0 {z : xZ} (hz : Lay z) : zr z 17 0 = 18 := (hz.2 17 (by decide)).2.2 0 (by decide)
theorem hr_17_1 {z : xZ} (hz : Lay z) : zr z 17 1 = 27 := (hz.2 17 (by decide)).2.2 1 (by decide)
theorem hr_17_2 {z : xZ} (hz : Lay z) : zr z 17 2 = 35 := (hz.2 17 (by decide)).2.2 2 (by decide)
theorem hr_17_3 {z : xZ} (hz : Lay z) : zr z 17 3 = 42 := (hz.2 17 (by decide)).2.2 3 (by decide)
theorem hr_17_4 {z : xZ} (hz : Lay z) : zr z 17 4 = 49 := (hz.2 17 (by decide)).2.2 4 (by decide)
theorem hr_17_6 {z : xZ} (hz : Lay z) : zr z 17 6 = 69 := (hz.2 17 (by decide)).2.2 6 (by decide)
theorem hh_18 {z : xZ} (hz : Lay z) : zh z 18 = 6 := (hz.2 18 (by decide)).1
theorem hr_18_1 {z : xZ} (hz : Lay z) : zr z 18 1 = 19 := (hz.2 18 (by decide)).2.2 1 (by decide)
theorem hr_18_2 {z : xZ} (hz : Lay z) : zr z 18 2 = 20 := (hz.2 18 (by decide)).2.2 2 (by decide)
theorem hr_18_3 {z : xZ} (hz : Lay z) : zr z 18 3 = 21 := (hz.2 18 (by decide)).2.2 3 (by decide)
theorem hr_18_4 {z : xZ} (hz : Lay z) : zr z 18 4 = 22 := (hz.2 18 (by decide)).2.2 4 (by decide)
theorem hr_18_5 {z : xZ} (hz : Lay z) : zr z 18 5 = 23 := (hz.2 18 (by decide)).2.2 5 (by decide)
theorem hr_18_6 {z : xZ} (hz : Lay z) : zr z 18 6 = 24 := (hz.2 18 (by decide)).2.2 6 (by decide)
theorem hr_18_7 {z : xZ} (hz : Lay z) : zr z 18 7 = 25 := (hz.2 18 (by decide)).2.2 7 (by decide)
theorem hr_18_8 {z : xZ} (hz : Lay z) : zr z 18 8 = 26 := (hz.2 18 (by decide)).2.2 8 (by decide)
theorem hh_19 {z : xZ} (hz : Lay z) : zh z 19 = 100 := (hz.2 19 (by decide)).1
theorem hc_19 {z : xZ} (hz : Lay z) : ((zl z 19 : Nat) : Int) = 64 := by rw [(hz.2 19 (by decide)).2.1 (by decide)]; rfl
theorem hh_20 {z : xZ} (hz : Lay z) : zh z 20 = 100 := (hz.2 20 (by decide)).1
theorem hc_20 {z : xZ} (hz : Lay z) : ((zl z 20 : Nat) : Int) = 64 := by rw [(hz.2 20 (by decide)).2.1 (by decide)]; rfl
theorem hh_21 {z : xZ} (hz : Lay z) : zh z 21 = 100 := (hz.2 21 (by decide)).1
theorem hc_21 {z : xZ} (hz : Lay z) : ((zl z 21 : Nat) : Int) = 64 := by rw [(hz.2 21 (by decide)).2.1 (by decide)]; rfl
theorem hh_22 {z : xZ} (hz : Lay z) : zh z 22 = 100 := (hz.2 22 (by decide)).1
theorem hc_22 {z : xZ} (hz : Lay z) : ((zl z 22 : Nat) : Int) = 10 := by rw [(hz.2 22 (by decide)).2.1 (by decide)]; rfl
theorem hh_23 {z : xZ} (hz : Lay z) : zh z 23 = 100 := (hz.2 23 (by decide)).1
theorem hc_23 {z : xZ} (hz : Lay z) : ((zl z 23 : Nat) : Int) = 10 := by rw [(hz.2 23 (by decide)).2.1 (by decide)]; rfl
theorem hh_24 {z : xZ} (hz : Lay z) : zh z 24 = 100 := (hz.2 24 (by decide)).1
theorem hc_24 {z : xZ} (hz : Lay z) : ((zl z 24 : Nat) : Int) = 10 := by rw [(hz.2 24 (by decide)).2.1 (by decide)]; rfl
theorem hh_25 {z : xZ} (hz : Lay z) : zh z 25 = 100 := (hz.2 25 (by decide)).1
theorem hc_25 {z : xZ} (hz : Lay z) : ((zl z 25 : Nat) : Int) = 10 := by rw [(hz.2 25 (by decide)).2.1 (by decide)]; rfl
theorem hh_26 {z : xZ} (hz : Lay z) : zh z 26 = 100 := (hz.2 26 (by decide)).1
theorem hc_26 {z : xZ} (hz : Lay z) : ((zl z 26 : Nat) : Int) = 10 := by rw [(hz.2 26 (by decide)).2.1 (by decide)]; rfl
theorem hh_27 {z : xZ} (hz : Lay z) : zh z 27 = 2 := (hz.2 27 (by decide)).1
theorem hr_27_0 {z : xZ} (hz : Lay z) : zr z 27 0 = 28 := (hz.2 27 (by decide)).2.2 0 (by decide)
theorem hr_27_1 {z : xZ} (hz : Lay z) : zr z 27 1 = 29 := (hz.2 27 (by decide)).2.2 1 (by decide)
theorem hr_27_2 {z : xZ} (hz : Lay z) : zr z 27 2 = 30 := (hz.2 27 (by decide)).2.2 2 (by decide)
theorem hr_27_3 {z : xZ} (hz : Lay z) : zr z 27 3 = 31 := (hz.2 27 (by decide)).2.2 3 (by decide)
theorem hr_27_4 {z : xZ} (hz : Lay z) : zr z 27 4 = 32 := (hz.2 27 (by decide)).2.2 4 (by decide)
theorem hr_27_7 {z : xZ} (hz : Lay z) : zr z 27 7 = 33 := (hz.2 27 (by decide)).2.2 7 (by decide)
theorem hr_27_8 {z : xZ} (hz : Lay z) : zr z 27 8 = 34 := (hz.2 27 (by decide)).2.2 8 (by decide)
theorem hh_28 {z : xZ} (hz : Lay z) : zh z 28 = 100 := (hz.2 28 (by decide)).1
theorem hc_28 {z : xZ} (hz : Lay z) : ((zl z 28 : Nat) : Int) = 400 := by rw [(hz.2 28 (by decide)).2.1 (by decide)]; rfl
theorem hh_29 {z : xZ} (hz : Lay z) : zh z 29 = 100 := (hz.2 29 (by decide)).1
theorem hc_29 {z : xZ} (hz : Lay z) : ((zl z 29 : Nat) : Int) = 16 := by rw [(hz.2 29 (by decide)).2.1 (by decide)]; rfl
theorem hh_30 {z : xZ} (hz : Lay z) : zh z 30 = 100 := (hz.2 30 (by decide)).1
theorem hc_30 {z : xZ} (hz : Lay z) : ((zl z 30 : Nat) : Int) = 16 := by rw [(hz.2 30 (by decide)).2.1 (by decide)]; rfl
theorem hh_31 {z : xZ} (hz : Lay z) : zh z 31 = 100 := (hz.2 31 (by decide)).1
theorem hc_31 {z : xZ} (hz : Lay z) : ((zl z 31 : Nat) : Int) = 16 := by rw [(hz.2 31 (by decide)).2.1 (by decide)]; rfl
theorem hh_32 {z : xZ} (hz : Lay z) : zh z 32 = 100 := (hz.2 32 (by decide)).1
theorem hc_32 {z : xZ} (hz : Lay z) : ((zl z 32 : Nat) : Int) = 16 := by rw [(hz.2 32 (by decide)).2.1 (by decide)]; rfl
theorem hh_33 {z : xZ} (hz : Lay z) : zh z 33 = 100 := (hz.2 33 (by decide)).1
theorem hc_33 {z : xZ} (hz : Lay z) : ((zl z 33 : Nat) : Int) = 10 := by rw [(hz.2 33 (by decide)).2.1 (by decide)]; rfl
theorem hh_34 {z : xZ} (hz : Lay z) : zh z 34 = 100 := (hz.2 34 (by decide)).1
theorem hc_34 {z : xZ} (hz : Lay z) : ((zl z 34 : Nat) : Int) = 32 := by rw [(hz.2 34 (by decide)).2.1 (by decide)]; rfl
theorem hh_35 {z : xZ} (hz : Lay z) : zh z 35 = 3 := (hz.2 35 (by decide)).1
theorem hr_35_0 {z : xZ} (hz : Lay z) : zr z 35 0 = 36 := (hz.2 35 (by decide)).2.2 0 (by decide)
theorem hr_35_1 {z : xZ} (hz : Lay z) : zr z 35 1 = 37 := (hz.2 35 (by decide)).2.2 1 (by decide)
theorem hr_35_2 {z : xZ} (hz : Lay z) : zr z 35 2 = 38 := (hz.2 35 (by decide)).2.2 2 (by decide)
theorem hr_35_3 {z : xZ} (hz : Lay z) : zr z 35 3 = 39 := (hz.2 35 (by decide)).2.2 3 (by decide)
theorem hr_35_4 {z : xZ} (hz : Lay z) : zr z 35 4 = 40 := (hz.2 35 (by decide)).2.2 4 (by decide)
theorem hr_35_5 {z : xZ} (hz : Lay z) : zr z 35 5 = 41 := (hz.2 35 (by decide)).2.2 5 (by decide)
theorem hh_36 {z : xZ} (hz : Lay z) : zh z 36 = 100 := (hz.2 36 (by decide)).1
theorem hc_36 {z : xZ} (hz : Lay z) : ((zl z 36 : Nat) : Int) = 16 := by rw [(hz.2 36 (by decide)).2.1 (by decide)]; rfl
theorem hh_37 {z : xZ} (hz : Lay z) : zh z 37 = 100 := (hz.2 37 (by decide)).1
theorem hc_37 {z : xZ} (hz : Lay z) : ((zl z 37 : Nat) : Int) = 16 := by rw [(hz.2 37 (by decide)).2.1 (by decide)]; rfl
theorem hh_38 {z : xZ} (hz : Lay z) : zh z 38 = 100 := (hz.2 38 (by decide)).1
theorem hc_38 {z : xZ} (hz : Lay z) : ((zl z 38 : Nat) : Int) = 16 := by rw [(hz.2 38 (by decide)).2.1 (by decide)]; rfl
theorem hh_39 {z : xZ} (hz : Lay z) : zh z 39 = 100 := (hz.2 39 (by decide)).1
theorem hc_39 {z : xZ} (hz : Lay z) : ((zl z 39 : Nat) : Int) = 16 := by rw [(hz.2 39 (by decide)).2.1 (by decide)]; rfl
theorem hh_40 {z : xZ} (hz : Lay z) : zh z 40 = 100 := (hz.2 40 (by decide)).1
theorem hc_40 {z : xZ} (hz : Lay z) : ((zl z 40 : Nat) : Int) = 16 := by rw [(hz.2 40 (by decide)).2.1 (by decide)]; rfl
theorem hh_41 {z : xZ} (hz : Lay z) : zh z 41 = 100 := (hz.2 41 (by decide)).1
theorem hc_41 {z : xZ} (hz : Lay z) : ((zl z 41 : Nat) : Int) = 16 := by rw [(hz.2 41 (by decide)).2.1 (by decide)]; rfl
theorem hh_42 {z : xZ} (hz : Lay z) : zh z 42 = 3 := (hz.2 42 (by decide)).1
theorem hr_42_0 {z : xZ} (hz : Lay z) : zr z 42 0 = 43 := (hz.2 42 (by decide)).2.2 0 (by decide)
theorem hr_42_1 {z : xZ} (hz : Lay z) : zr z 42 1 = 44 := (hz.2 42 (by decide)).2.2 1 (by decide)
theorem hr_42_2 {z : xZ} (hz : Lay z) : zr z 42 2 = 45 := (hz.2 42 (by decide)).2.2 2 (by decide)
theorem hr_42_3 {z : xZ} (hz : Lay z) : zr z 42 3 = 46 := (hz.2 42 (by decide)).2.2 3 (by decide)
theorem hr_42_4 {z : xZ} (hz : Lay z) : zr z 42 4 = 47 := (hz.2 42 (by decide)).2.2 4 (by decide)
theorem hr_42_5 {z : xZ} (hz : Lay z) : zr z 42 5 = 48 := (hz.2 42 (by decide)).2.2 5 (by decide)
theorem hh_43 {z : xZ} (hz : Lay z) : zh z 43 = 100 := (hz.2 43 (by decide)).1
theorem hc_43 {z : xZ} (hz : Lay z) : ((zl z 43 : Nat) : Int) = 16 := by rw [(hz.2 43 (by decide)).2.1 (by decide)]; rfl
theorem hh_44 {z : xZ} (hz : Lay z) : zh z 44 = 100 := (hz.2 44 (by decide)).1
theorem hc_44 {z : xZ} (hz : Lay z) : ((zl z 44 : Nat) : Int) = 16 := by rw [(hz.2 44 (by decide)).2.1 (by decide)]; rfl
theorem hh_45 {z : xZ} (hz : Lay z) : zh z 45 = 100 := (hz.2 45 (by decide)).1
theorem hc_45 {z : xZ} (hz : Lay z) : ((zl z 45 : Nat) : Int) = 16 := by rw [(hz.2 45 (by decide)).2.1 (by decide)]; rfl
theorem hh_46 {z : xZ} (hz : Lay z) : zh z 46 = 100 := (hz.2 46 (by decide)).1
theorem hc_46 {z : xZ} (hz : Lay z) : ((zl z 46 : Nat) : Int) = 16 := by rw [(hz.2 46 (by decide)).2.1 (by decide)]; rfl
theorem hh_47 {z : xZ} (hz : Lay z) : zh z 47 = 100 := (hz.2 47 (by decide)).1
theorem hc_47 {z : xZ} (hz : Lay z) : ((zl z 47 : Nat) : Int) = 16 := by rw [(hz.2 47 (by decide)).2.1 (by decide)]; rfl
theorem hh_48 {z : xZ} (hz : Lay z) : zh z 48 = 100 := (hz.2 48 (by decide)).1
theorem hc_48 {z : xZ} (hz : Lay z) : ((zl z 48 : Nat) : Int) = 16 := by rw [(hz.2 48 (by decide)).2.1 (by decide)]; rfl
theorem hh_49 {z : xZ} (hz : Lay z) : zh z 49 = 4 := (hz.2 49 (by decide)).1
theorem hr_49_0 {z : xZ} (hz : Lay z) : zr z 49 0 = 50 := (hz.2 49 (by decide)).2.2 0 (by decide)
theorem hr_49_1 {z : xZ} (hz : Lay z) : zr z 49 1 = 51 := (hz.2 49 (by decide)).2.2 1 (by decide)
theorem hr_49_2 {z : xZ} (hz : Lay z) : zr z 49 2 = 53 := (hz.2 49 (by decide)).2.2 2 (by decide)
theorem hr_49_3 {z : xZ} (hz : Lay z) : zr z 49 3 = 55 := (hz.2 49 (by decide)).2.2 3 (by decide)
theorem hr_49_4 {z : xZ} (hz : Lay z) : zr z 49 4 = 57 := (hz.2 49 (by decide)).2.2 4 (by decide)
theorem hr_49_5 {z : xZ} (hz : Lay z) : zr z 49 5 = 59 := (hz.2 49 (by decide)).2.2 5 (by decide)
theorem hh_50 {z : xZ} (hz : Lay z) : zh z 50 = 100 := (hz.2 50 (by decide)).1
theorem hc_50 {z : xZ} (hz : Lay z) : ((zl z 50 : Nat) : Int) = 8 := by rw [(hz.2 50 (by decide)).2.1 (by decide)]; rfl
theorem hh_51 {z : xZ} (hz : Lay z) : zh z 51 = 5 := (hz.2 51 (by decide)).1
theorem hr_51_0 {z : xZ} (hz : Lay z) : zr z 51 0 = 52 := (hz.2 51 (by decide)).2.2 0 (by decide)
theorem hh_52 {z : xZ} (hz : Lay z) : zh z 52 = 100 := (hz.2 52 (by decide)).1
theorem hc_52 {z : xZ} (hz : Lay z) : ((zl z 52 : Nat) : Int) = 12 := by rw [(hz.2 52 (by decide)).2.1 (by decide)]; rfl
theorem hh_53 {z : xZ} (hz : Lay z) : zh z 53 = 5 := (hz.2 53 (by decide)).1
theorem hr_53_0 {z : xZ} (hz : Lay z) : zr z 53 0 = 54 := (hz.2 53 (by decide)).2.2 0 (by decide)
theorem hh_54 {z : xZ} (hz : Lay z) : zh z 54 = 100 := (hz.2 54 (by decide)).1
theorem hc_54 {z : xZ} (hz : Lay z) : ((zl z 54 : Nat) : Int) = 12 := by rw [(hz.2 54 (by decide)).2.1 (by decide)]; rfl
theorem hh_55 {z : xZ} (hz : Lay z) : zh z 55 = 5 := (hz.2 55 (by decide)).1
theorem hr_55_0 {z : xZ} (hz : Lay z) : zr z 55 0 = 56 := (hz.2 55 (by decide)).2.2 0 (by decide)
theorem hh_56 {z : xZ} (hz : Lay z) : zh z 56 = 100 := (hz.2 56 (by decide)).1
theorem hc_56 {z : xZ} (hz : Lay z) : ((zl z 56 : Nat) : Int) = 9 := by rw [(hz.2 56 (by decide)).2.1 (by decide)]; rfl
theorem hh_57 {z : xZ} (hz : Lay z) : zh z 57 = 5 := (hz.2 57 (by decide)).1
theorem hr_57_0 {z : xZ} (hz : Lay z) : zr z 57 0 = 58 := (hz.2 57 (by decide)).2.2 0 (by decide)
theorem hh_58 {z : xZ} (hz : Lay z) : zh z 58 = 100 := (hz.2 58 (by decide)).1
theorem hc_58 {z : xZ} (hz : Lay z) : ((zl z 58 : Nat) : Int) = 10 := by rw [(hz.2 58 (by decide)).2.1 (by decide)]; rfl
theorem hh_59 {z : xZ} (hz : Lay z) : zh z 59 = 7 := (hz.2 59 (by decide)).1
theorem hr_59_0 {z : xZ} (hz : Lay z) : zr z 59 0 = 60 := (hz.2 59 (by decide)).2.2 0 (by decide)
theorem hh_60 {z : xZ} (hz : Lay z) : zh z 60 = 105 := (hz.2 60 (by decide)).1
theorem hc_60 {z : xZ} (hz : Lay z) : ((zl z 60 : Nat) : Int) = 8 := by rw [(hz.2 60 (by decide)).2.1 (by decide)]; rfl
theorem hr_60_0 {z : xZ} (hz : Lay z) : zr z 60 0 = 61 := (hz.2 60 (by decide)).2.2 0 (by decide)
theorem hr_60_1 {z : xZ} (hz : Lay z) : zr z 60 1 = 62 := (hz.2 60 (by decide)).2.2 1 (by decide)
theorem hr_60_2 {z : xZ} (hz : Lay z) : zr z 60 2 = 63 := (hz.2 60 (by decide)).2.2 2 (by decide)
theorem hr_60_3 {z : xZ} (hz : Lay z) : zr z 60 3 = 64 := (hz.2 60 (by decide)).2.2 3 (by decide)
theorem hr_60_4 {z : xZ} (hz : Lay z) : zr z 60 4 = 65 := (hz.2 60 (by decide)).2.2 4 (by decide)
theorem hr_60_5 {z : xZ} (hz : Lay z) : zr z 60 5 = 66 := (hz.2 60 (by decide)).2.2 5 (by decide)
theorem hr_60_6 {z : xZ} (hz : Lay z) : zr z 60 6 = 67 := (hz.2 60 (by decide)).2.2 6 (by decide)
theorem hr_60_7 {z : xZ} (hz : Lay z) : zr z 60 7 = 68 := (hz.2 60 (by decide)).2.2 7 (by decide)
theorem hh_61 {z : xZ} (hz : Lay z) : zh z 61 = 100 := (hz.2 61 (by decide)).1
theorem hc_61 {z : xZ} (hz : Lay z) : ((zl z 61 : Nat) : Int) = 4 := by rw [(hz.2 61 (by decide)).2.1 (by decide)]; rfl
theorem hh_62 {z : xZ} (hz : Lay z) : zh z 62 = 100 := (hz.2 62 (by decide)).1
theorem hc_62 {z : xZ} (hz : Lay z) : ((zl z 62 : Nat) : Int) = 4 := by rw [(hz.2 62 (by decide)).2.1 (by decide)]; rfl
theorem hh_63 {z : xZ} (hz : Lay z) : zh z 63 = 100 := (hz.2 63 (by decide)).1
theorem hc_63 {z : xZ} (hz : Lay z) : ((zl z 63 : Nat) : Int) = 4 := by rw [(hz.2 63 (by decide)).2.1 (by decide)]; rfl
theorem hh_64 {z : xZ} (hz : Lay z) : zh z 64 = 100 := (hz.2 64 (by decide)).1
theorem hc_64 {z : xZ} (hz : Lay z) : ((zl z 64 : Nat) : Int) = 4 := by rw [(hz.2 64 (by decide)).2.1 (by decide)]; rfl
theorem hh_65 {z : xZ} (hz : Lay z) : zh z 65 = 100 := (hz.2 65 (by decide)).1
theorem hc_65 {z : xZ} (hz : Lay z) : ((zl z 65 : Nat) : Int) = 4 := by rw [(hz.2 65 (by decide)).2.1 (by decide)]; rfl
theorem hh_66 {z : xZ} (hz : Lay z) : zh z 66 = 100 := (hz.2 66 (by decide)).1
theorem hc_66 {z : xZ} (hz : Lay z) : ((zl z 66 : Nat) : Int) = 4 := by rw [(hz.2 66 (by decide)).2.1 (by decide)]; rfl
theorem hh_67 {z : xZ} (hz : Lay z) : zh z 67 = 100 := (hz.2 67 (by decide)).1
theorem hc_67 {z : xZ} (hz : Lay z) : ((zl z 67 : Nat) : Int) = 4 := by rw [(hz.2 67 (by decide)).2.1 (by decide)]; rfl
theorem hh_68 {z : xZ} (hz : Lay z) : zh z 68 = 100 := (hz.2 68 (by decide)).1
theorem hc_68 {z : xZ} (hz : Lay z) : ((zl z 68 : Nat) : Int) = 4 := by rw [(hz.2 68 (by decide)).2.1 (by decide)]; rfl
theorem hh_69 {z : xZ} (hz : Lay z) : zh z 69 = 100 := (hz.2 69 (by decide)).1
theorem hc_69 {z : xZ} (hz : Lay z) : ((zl z 69 : Nat) : Int) = 600 := by rw [(hz.2 69 (by decide)).2.1 (by decide)]; rfl
theorem hh_70 {z : xZ} (hz : Lay z) : zh z 70 = 1 := (hz.2 70 (by decide)).1
theorem hr_70_0 {z : xZ} (hz : Lay z) : zr z 70 0 = 71 := (hz.2 70 (by decide)).2.2 0 (by decide)
theorem hr_70_1 {z : xZ} (hz : Lay z) : zr z 70 1 = 80 := (hz.2 70 (by decide)).2.2 1 (by decide)
theorem hr_70_2 {z : xZ} (hz : Lay z) : zr z 70 2 = 88 := (hz.2 70 (by decide)).2.2 2 (by decide)
theorem hr_70_3 {z : xZ} (hz : Lay z) : zr z 70 3 = 95 := (hz.2 70 (by decide)).2.2 3 (by decide)
theorem hr_70_4 {z : xZ} (hz : Lay z) : zr z 70 4 = 102 := (hz.2 70 (by decide)).2.2 4 (by decide)
theorem hr_70_6 {z : xZ} (hz : Lay z) : zr z 70 6 = 122 := (hz.2 70 (by decide)).2.2 6 (by decide)
theorem hh_123 {z : xZ} (hz : Lay z) : zh z 123 = 6 := (hz.2 123 (by decide)).1
theorem hr_123_1 {z : xZ} (hz : Lay z) : zr z 123 1 = 124 := (hz.2 123 (by decide)).2.2 1 (by decide)
theorem hr_123_2 {z : xZ} (hz : Lay z) : zr z 123 2 = 125 := (hz.2 123 (by decide)).2.2 2 (by decide)
theorem hr_123_3 {z : xZ} (hz : Lay z) : zr z 123 3 = 126 := (hz.2 123 (by decide)).2.2 3 (by decide)
theorem hr_123_4 {z : xZ} (hz : Lay z) : zr z 123 4 = 127 := (hz.2 123 (by decide)).2.2 4 (by decide)
theorem hr_123_5 {z : xZ} (hz : Lay z) : zr z 123 5 = 128 := (hz.2 123 (by decide)).2.2 5 (by decide)
theorem hr_123_6 {z : xZ} (hz : Lay z) : zr z 123 6 = 129 := (hz.2 123 (by decide)).2.2 6 (by decide)
theorem hr_123_7 {z : xZ} (hz : Lay z) : zr z 123 7 = 130 := (hz.2 123 (by decide)).2.2 7 (by decide)
theorem hr_123_8 {z : xZ} (hz : Lay z) : zr z 123 8 = 131 := (hz.2 123 (by decide)).2.2 8 (by decide)
theorem hh_124 {z : xZ} (hz : Lay z) : zh z 124 = 100 := (hz.2 124 (by decide)).1
theorem hc_124 {z : xZ} (hz : Lay z) : ((zl z 124 : Nat) : Int) = 64 := by rw [(hz.2 124 (by decide)).2.1 (by decide)]; rfl
theorem hh_125 {z : xZ} (hz : Lay z) : zh z 125 = 100 := (hz.2 125 (by decide)).1
theorem hc_125 {z : xZ} (hz : Lay z) : ((zl z 125 : Nat) : Int) = 64 := by rw [(hz.2 125 (by decide)).2.1 (by decide)]; rfl
theorem hh_126 {z : xZ} (hz : Lay z) : zh z 126 = 100 := (hz.2 126 (by decide)).1
theorem hc_126 {z : xZ} (hz : Lay z) : ((zl z 126 : Nat) : Int) = 64 := by rw [(hz.2 126 (by decide)).2.1 (by decide)]; rfl
theorem hh_127 {z : xZ} (hz : Lay z) : zh z 127 = 100 := (hz.2 127 (by decide)).1
theorem hc_127 {z : xZ} (hz : Lay z) : ((zl z 127 : Nat) : Int) = 10 := by rw [(hz.2 127 (by decide)).2.1 (by decide)]; rfl
theorem hh_128 {z : xZ} (hz : Lay z) : zh z 128 = 100 := (hz.2 128 (by decide)).1
theorem hc_128 {z : xZ} (hz : Lay z) : ((zl z 128 : Nat) : Int) = 10 := by rw [(hz.2 128 (by decide)).2.1 (by decide)]; rfl
theorem hh_129 {z : xZ} (hz : Lay z) : zh z 129 = 100 := (hz.2 129 (by decide)).1
theorem hc_129 {z : xZ} (hz : Lay z) : ((zl z 129 : Nat) : Int) = 10 := by rw [(hz.2 129 (by decide)).2.1 (by decide)]; rfl
theorem hh_130 {z : xZ} (hz : Lay z) : zh z 130 = 100 := (hz.2 130 (by decide)).1
theorem hc_130 {z : xZ} (hz : Lay z) : ((zl z 130 : Nat) : Int) = 10 := by rw [(hz.2 130 (by decide)).2.1 (by decide)]; rfl
theorem hh_131 {z : xZ} (hz : Lay z) : zh z 131 = 100 := (hz.2 131 (by decide)).1
theorem hc_131 {z : xZ} (hz : Lay z) : ((zl z 131 : Nat) : Int) = 10 := by rw [(hz.2 131 (by decide)).2.1 (by decide)]; rfl
theorem hh_132 {z : xZ} (hz : Lay z) : zh z 132 = 104 := (hz.2 132 (by decide)).1
theorem hc_132 {z : xZ} (hz : Lay z) : ((zl z 132 : Nat) : Int) = 6 := by rw [(hz.2 132 (by decide)).2.1 (by decide)]; rfl
theorem hr_132_0 {z : xZ} (hz : Lay z) : zr z 132 0 = 154 := (hz.2 132 (by decide)).2.2 0 (by decide)
theorem hr_132_1 {z : xZ} (hz : Lay z) : zr z 132 1 = 163 := (hz.2 132 (by decide)).2.2 1 (by decide)
theorem hr_132_2 {z : xZ} (hz : Lay z) : zr z 132 2 = 172 := (hz.2 132 (by decide)).2.2 2 (by decide)
theorem hr_132_3 {z : xZ} (hz : Lay z) : zr z 132 3 = 181 := (hz.2 132 (by decide)).2.2 3 (by decide)
theorem hr_132_4 {z : xZ} (hz : Lay z) : zr z 132 4 = 190 := (hz.2 132 (by decide)).2.2 4 (by decide)
theorem hr_132_5 {z : xZ} (hz : Lay z) : zr z 132 5 = 199 := (hz.2 132 (by decide)).2.2 5 (by decide)
theorem hh_133 {z : xZ} (hz : Lay z) : zh z 133 = 101 := (hz.2 133 (by decide)).1
theorem hc_133 {z : xZ} (hz : Lay z) : ((zl z 133 : Nat) : Int) = 400 := by rw [(hz.2 133 (by decide)).2.1 (by decide)]; rfl
theorem hh_134 {z : xZ} (hz : Lay z) : zh z 134 = 8 := (hz.2 134 (by decide)).1
theorem hr_134_0 {z : xZ} (hz : Lay z) : zr z 134 0 = 135 := (hz.2 134 (by decide)).2.2 0 (by decide)
theorem hr_134_1 {z : xZ} (hz : Lay z) : zr z 134 1 = 138 := (hz.2 134 (by decide)).2.2 1 (by decide)
theorem hr_134_2 {z : xZ} (hz : Lay z) : zr z 134 2 = 146 := (hz.2 134 (by decide)).2.2 2 (by decide)
theorem hh_135 {z : xZ} (hz : Lay z) : zh z 135 = 9 := (hz.2 135 (by decide)).1
theorem hr_135_0 {z : xZ} (hz : Lay z) : zr z 135 0 = 136 := (hz.2 135 (by decide)).2.2 0 (by decide)
theorem hr_135_1 {z : xZ} (hz : Lay z) : zr z 135 1 = 137 := (hz.2 135 (by decide)).2.2 1 (by decide)
theorem hh_136 {z : xZ} (hz : Lay z) : zh z 136 = 100 := (hz.2 136 (by decide)).1
theorem hc_136 {z : xZ} (hz : Lay z) : ((zl z 136 : Nat) : Int) = 401 := by rw [(hz.2 136 (by decide)).2.1 (by decide)]; rfl
theorem hh_137 {z : xZ} (hz : Lay z) : zh z 137 = 100 := (hz.2 137 (by decide)).1
theorem hc_137 {z : xZ} (hz : Lay z) : ((zl z 137 : Nat) : Int) = 401 := by rw [(hz.2 137 (by decide)).2.1 (by decide)]; rfl
theorem hh_138 {z : xZ} (hz : Lay z) : zh z 138 = 2 := (hz.2 138 (by decide)).1
theorem hr_138_0 {z : xZ} (hz : Lay z) : zr z 138 0 = 139 := (hz.2 138 (by decide)).2.2 0 (by decide)
theorem hr_138_1 {z : xZ} (hz : Lay z) : zr z 138 1 = 140 := (hz.2 138 (by decide)).2.2 1 (by decide)
theorem hr_138_2 {z : xZ} (hz : Lay z) : zr z 138 2 = 141 := (hz.2 138 (by decide)).2.2 2 (by decide)
theorem hr_138_3 {z : xZ} (hz : Lay z) : zr z 138 3 = 142 := (hz.2 138 (by decide)).2.2 3 (by decide)
theorem hr_138_4 {z : xZ} (hz : Lay z) : zr z 138 4 = 143 := (hz.2 138 (by decide)).2.2 4 (by decide)
theorem hr_138_7 {z : xZ} (hz : Lay z) : zr z 138 7 = 144 := (hz.2 138 (by decide)).2.2 7 (by decide)
theorem hr_138_8 {z : xZ} (hz : Lay z) : zr z 138 8 = 145 := (hz.2 138 (by decide)).2.2 8 (by decide)
theorem hh_139 {z : xZ} (hz : Lay z) : zh z 139 = 100 := (hz.2 139 (by decide)).1
theorem hc_139 {z : xZ} (hz : Lay z) : ((zl z 139 : Nat) : Int) = 400 := by rw [(hz.2 139 (by decide)).2.1 (by decide)]; rfl
theorem hh_140 {z : xZ} (hz : Lay z) : zh z 140 = 100 := (hz.2 140 (by decide)).1
theorem hc_140 {z : xZ} (hz : Lay z) : ((zl z 140 : Nat) : Int) = 16 := by rw [(hz.2 140 (by decide)).2.1 (by decide)]; rfl
theorem hh_141 {z : xZ} (hz : Lay z) : zh z 141 = 100 := (hz.2 141 (by decide)).1
theorem hc_141 {z : xZ} (hz : Lay z) : ((zl z 141 : Nat) : Int) = 16 := by rw [(hz.2 141 (by decide)).2.1 (by decide)]; rfl
theorem hh_142 {z : xZ} (hz : Lay z) : zh z 142 = 100 := (hz.2 142 (by decide)).1
theorem hc_142 {z : xZ} (hz : Lay z) : ((zl z 142 : Nat) : Int) = 16 := by rw [(hz.2 142 (by decide)).2.1 (by decide)]; rfl
theorem hh_143 {z : xZ} (hz : Lay z) : zh z 143 = 100 := (hz.2 143 (by decide)).1
theorem hc_143 {z : xZ} (hz : Lay z) : ((zl z 143 : Nat) : Int) = 16 := by rw [(hz.2 143 (by decide)).2.1 (by decide)]; rfl
theorem hh_144 {z : xZ} (hz : Lay z) : zh z 144 = 100 := (hz.2 144 (by decide)).1
theorem hc_144 {z : xZ} (hz : Lay z) : ((zl z 144 : Nat) : Int) = 10 := by rw [(hz.2 144 (by decide)).2.1 (by decide)]; rfl
theorem hh_145 {z : xZ} (hz : Lay z) : zh z 145 = 100 := (hz.2 145 (by decide)).1
theorem hc_145 {z : xZ} (hz : Lay z) : ((zl z 145 : Nat) : Int) = 32 := by rw [(hz.2 145 (by decide)).2.1 (by decide)]; rfl
theorem hh_146 {z : xZ} (hz : Lay z) : zh z 146 = 100 := (hz.2 146 (by decide)).1
theorem hc_146 {z : xZ} (hz : Lay z) : ((zl z 146 : Nat) : Int) = 32 := by rw [(hz.2 146 (by decide)).2.1 (by decide)]; rfl
theorem hh_147 {z : xZ} (hz : Lay z) : zh z 147 = 3 := (hz.2 147 (by decide)).1
theorem hr_147_0 {z : xZ} (hz : Lay z) : zr z 147 0 = 148 := (hz.2 147 (by decide)).2.2 0 (by decide)
theorem hr_147_1 {z : xZ} (hz : Lay z) : zr z 147 1 = 149 := (hz.2 147 (by decide)).2.2 1 (by decide)
theorem hr_147_2 {z : xZ} (hz : Lay z) : zr z 147 2 = 150 := (hz.2 147 (by decide)).2.2 2 (by decide)
theorem hr_147_3 {z : xZ} (hz : Lay z) : zr z 147 3 = 151 := (hz.2 147 (by decide)).2.2 3 (by decide)
theorem hr_147_4 {z : xZ} (hz : Lay z) : zr z 147 4 = 152 := (hz.2 147 (by decide)).2.2 4 (by decide)
theorem hr_147_5 {z : xZ} (hz : Lay z) : zr z 147 5 = 153 := (hz.2 147 (by decide)).2.2 5 (by decide)
theorem hh_148 {z : xZ} (hz : Lay z) : zh z 148 = 100 := (hz.2 148 (by decide)).1
theorem hc_148 {z : xZ} (hz : Lay z) : ((zl z 148 : Nat) : Int) = 16 := by rw [(hz.2 148 (by decide)).2.1 (by decide)]; rfl
theorem hh_149 {z : xZ} (hz : Lay z) : zh z 149 = 100 := (hz.2 149 (by decide)).1
theorem hc_149 {z : xZ} (hz : Lay z) : ((zl z 149 : Nat) : Int) = 16 := by rw [(hz.2 149 (by decide)).2.1 (by decide)]; rfl
theorem hh_150 {z : xZ} (hz : Lay z) : zh z 150 = 100 := (hz.2 150 (by decide)).1
theorem hc_150 {z : xZ} (hz : Lay z) : ((zl z 150 : Nat) : Int) = 16 := by rw [(hz.2 150 (by decide)).2.1 (by decide)]; rfl
theorem hh_151 {z : xZ} (hz : Lay z) : zh z 151 = 100 := (hz.2 151 (by decide)).1
theorem hc_151 {z : xZ} (hz : Lay z) : ((zl z 151 : Nat) : Int) = 16 := by rw [(hz.2 151 (by decide)).2.1 (by decide)]; rfl
theorem hh_152 {z : xZ} (hz : Lay z) : zh z 152 = 100 := (hz.2 152 (by decide)).1
theorem hc_152 {z : xZ} (hz : Lay z) : ((zl z 152 : Nat) : Int) = 16 := by rw [(hz.2 152 (by decide)).2.1 (by decide)]; rfl
theorem hh_153 {z : xZ} (hz : Lay z) : zh z 153 = 100 := (hz.2 153 (by decide)).1
theorem hc_153 {z : xZ} (hz : Lay z) : ((zl z 153 : Nat) : Int) = 16 := by rw [(hz.2 153 (by decide)).2.1 (by decide)]; rfl
theorem hh_154 {z : xZ} (hz : Lay z) : zh z 154 = 6 := (hz.2 154 (by decide)).1
theorem hr_154_1 {z : xZ} (hz : Lay z) : zr z 154 1 = 155 := (hz.2 154 (by decide)).2.2 1 (by decide)
theorem hr_154_2 {z : xZ} (hz : Lay z) : zr z 154 2 = 156 := (hz.2 154 (by decide)).2.2 2 (by decide)
theorem hr_154_3 {z : xZ} (hz : Lay z) : zr z 154 3 = 157 := (hz.2 154 (by decide)).2.2 3 (by decide)
theorem hr_154_4 {z : xZ} (hz : Lay z) : zr z 154 4 = 158 := (hz.2 154 (by decide)).2.2 4 (by decide)
theorem hr_154_5 {z : xZ} (hz : Lay z) : zr z 154 5 = 159 := (hz.2 154 (by decide)).2.2 5 (by decide)
theorem hr_154_6 {z : xZ} (hz : Lay z) : zr z 154 6 = 160 := (hz.2 154 (by decide)).2.2 6 (by decide)
theorem hr_154_7 {z : xZ} (hz : Lay z) : zr z 154 7 = 161 := (hz.2 154 (by decide)).2.2 7 (by decide)
theorem hr_154_8 {z : xZ} (hz : Lay z) : zr z 154 8 = 162 := (hz.2 154 (by decide)).2.2 8 (by decide)
theorem hh_155 {z : xZ} (hz : Lay z) : zh z 155 = 100 := (hz.2 155 (by decide)).1
theorem hc_155 {z : xZ} (hz : Lay z) : ((zl z 155 : Nat) : Int) = 64 := by rw [(hz.2 155 (by decide)).2.1 (by decide)]; rfl
theorem hh_156 {z : xZ} (hz : Lay z) : zh z 156 = 100 := (hz.2 156 (by decide)).1
theorem hc_156 {z : xZ} (hz : Lay z) : ((zl z 156 : Nat) : Int) = 64 := by rw [(hz.2 156 (by decide)).2.1 (by decide)]; rfl
theorem hh_157 {z : xZ} (hz : Lay z) : zh z 157 = 100 := (hz.2 157 (by decide)).1
theorem hc_157 {z : xZ} (hz : Lay z) : ((zl z 157 : Nat) : Int) = 64 := by rw [(hz.2 157 (by decide)).2.1 (by decide)]; rfl
theorem hh_158 {z : xZ} (hz : Lay z) : zh z 158 = 100 := (hz.2 158 (by decide)).1
theorem hc_158 {z : xZ} (hz : Lay z) : ((zl z 158 : Nat) : Int) = 10 := by rw [(hz.2 158 (by decide)).2.1 (by decide)]; rfl
theorem hh_159 {z : xZ} (hz : Lay z) : zh z 159 = 100 := (hz.2 159 (by decide)).1
theorem hc_159 {z : xZ} (hz : Lay z) : ((zl z 159 : Nat) : Int) = 10 := by rw [(hz.2 159 (by decide)).2.1 (by decide)]; rfl
theorem hh_160 {z : xZ} (hz : Lay z) : zh z 160 = 100 := (hz.2 160 (by decide)).1
theorem hc_160 {z : xZ} (hz : Lay z) : ((zl z 160 : Nat) : Int) = 10 := by rw [(hz.2 160 (by decide)).2.1 (by decide)]; rfl
theorem hh_161 {z : xZ} (hz : Lay z) : zh z 161 = 100 := (hz.2 161 (by decide)).1
theorem hc_161 {z : xZ} (hz : Lay z) : ((zl z 161 : Nat) : Int) = 10 := by rw [(hz.2 161 (by decide)).2.1 (by decide)]; rfl
theorem hh_162 {z : xZ} (hz : Lay z) : zh z 162 = 100 := (hz.2 162 (by decide)).1
theorem hc_162 {z : xZ} (hz : Lay z) : ((zl z 162 : Nat) : Int) = 10 := by rw [(hz.2 162 (by decide)).2.1 (by decide)]; rfl
theorem hh_163 {z : xZ} (hz : Lay z) : zh z 163 = 6 := (hz.2 163 (by decide)).1
theorem hr_163_1 {z : xZ} (hz : Lay z) : zr z 163 1 = 164 := (hz.2 163 (by decide)).2.2 1 (by decide)
theorem hr_163_2 {z : xZ} (hz : Lay z) : zr z 163 2 = 165 := (hz.2 163 (by decide)).2.2 2 (by decide)
theorem hr_163_3 {z : xZ} (hz : Lay z) : zr z 163 3 = 166 := (hz.2 163 (by decide)).2.2 3 (by decide)
theorem hr_163_4 {z : xZ} (hz : Lay z) : zr z 163 4 = 167 := (hz.2 163 (by decide)).2.2 4 (by decide)
theorem hr_163_5 {z : xZ} (hz : Lay z) : zr z 163 5 = 168 := (hz.2 163 (by decide)).2.2 5 (by decide)
theorem hr_163_6 {z : xZ} (hz : Lay z) : zr z 163 6 = 169 := (hz.2 163 (by decide)).2.2 6 (by decide)
theorem hr_163_7 {z : xZ} (hz : Lay z) : zr z 163 7 = 170 := (hz.2 163 (by decide)).2.2 7 (by decide)
theorem hr_163_8 {z : xZ} (hz : Lay z) : zr z 163 8 = 171 := (hz.2 163 (by decide)).2.2 8 (by decide)
theorem hh_164 {z : xZ} (hz : Lay z) : zh z 164 = 100 := (hz.2 164 (by decide)).1
theorem hc_164 {z : xZ} (hz : Lay z) : ((zl z 164 : Nat) : Int) = 64 := by rw [(hz.2 164 (by decide)).2.1 (by decide)]; rfl
theorem hh_165 {z : xZ} (hz : Lay z) : zh z 165 = 100 := (hz.2 165 (by decide)).1
theorem hc_165 {z : xZ} (hz : Lay z) : ((zl z 165 : Nat) : Int) = 64 := by rw [(hz.2 165 (by decide)).2.1 (by decide)]; rfl
theorem hh_166 {z : xZ} (hz : Lay z) : zh z 166 = 100 := (hz.2 166 (by decide)).1
theorem hc_166 {z : xZ} (hz : Lay z) : ((zl z 166 : Nat) : Int) = 64 := by rw [(hz.2 166 (by decide)).2.1 (by decide)]; rfl
theorem hh_167 {z : xZ} (hz : Lay z) : zh z 167 = 100 := (hz.2 167 (by decide)).1
theorem hc_167 {z : xZ} (hz : Lay z) : ((zl z 167 : Nat) : Int) = 10 := by rw [(hz.2 167 (by decide)).2.1 (by decide)]; rfl
theorem hh_168 {z : xZ} (hz : Lay z) : zh z 168 = 100 := (hz.2 168 (by decide)).1
theorem hc_168 {z : xZ} (hz : Lay z) : ((zl z 168 : Nat) : Int) = 10 := by rw [(hz.2 168 (by decide)).2.1 (by decide)]; rfl
theorem hh_169 {z : xZ} (hz : Lay z) : zh z 169 = 100 := (hz.2 169 (by decide)).1
theorem hc_169 {z : xZ} (hz : Lay z) : ((zl z 169 : Nat) : Int) = 10 := by rw [(hz.2 169 (by decide)).2.1 (by decide)]; rfl
theorem hh_170 {z : xZ} (hz : Lay z) : zh z 170 = 100 := (hz.2 170 (by decide)).1
theorem hc_170 {z : xZ} (hz : Lay z) : ((zl z 170 : Nat) : Int) = 10 := by rw [(hz.2 170 (by decide)).2.1 (by decide)]; rfl
theorem hh_171 {z : xZ} (hz : Lay z) : zh z 171 = 100 := (hz.2 171 (by decide)).1
theorem hc_171 {z : xZ} (hz : Lay z) : ((zl z 171 : Nat) : Int) = 10 := by rw [(hz.2 171 (by decide)).2.1 (by decide)]; rfl
theorem hh_172 {z : xZ} (hz : Lay z) : zh z 172 = 6 := (hz.2 172 (by decide)).1
theorem hr_172_1 {z : xZ} (hz : Lay z) : zr z 172 1 = 173 := (hz.2 172 (by decide)).2.2 1 (by decide)
theorem hr_172_2 {z : xZ} (hz : Lay z) : zr z 172 2 = 174 := (hz.2 172 (by decide)).2.2 2 (by decide)
theorem hr_172_3 {z : xZ} (hz : Lay z) : zr z 172 3 = 175 := (hz.2 172 (by decide)).2.2 3 (by decide)
theorem hr_172_4 {z : xZ} (hz : Lay z) : zr z 172 4 = 176 := (hz.2 172 (by decide)).2.2 4 (by decide)
theorem hr_172_5 {z : xZ} (hz : Lay z) : zr z 172 5 = 177 := (hz.2 172 (by decide)).2.2 5 (by decide)
theorem hr_172_6 {z : xZ} (hz : Lay z) : zr z 172 6 = 178 := (hz.2 172 (by decide)).2.2 6 (by decide)
theorem hr_172_7 {z : xZ} (hz : Lay z) : zr z 172 7 = 179 := (hz.2 172 (by decide)).2.2 7 (by decide)
theorem hr_172_8 {z : xZ} (hz : Lay z) : zr z 172 8 = 180 := (hz.2 172 (by decide)).2.2 8 (by decide)
theorem hh_173 {z : xZ} (hz : Lay z) : zh z 173 = 100 := (hz.2 173 (by decide)).1
theorem hc_173 {z : xZ} (hz : Lay z) : ((zl z 173 : Nat) : Int) = 64 := by rw [(hz.2 173 (by decide)).2.1 (by decide)]; rfl
theorem hh_174 {z : xZ} (hz : Lay z) : zh z 174 = 100 := (hz.2 174 (by decide)).1
theorem hc_174 {z : xZ} (hz : Lay z) : ((zl z 174 : Nat) : Int) = 64 := by rw [(hz.2 174 (by decide)).2.1 (by decide)]; rfl
theorem hh_175 {z : xZ} (hz : Lay z) : zh z 175 = 100 := (hz.2 175 (by decide)).1
theorem hc_175 {z : xZ} (hz : Lay z) : ((zl z 175 : Nat) : Int) = 64 := by rw [(hz.2 175 (by decide)).2.1 (by decide)]; rfl
theorem hh_176 {z : xZ} (hz : Lay z) : zh z 176 = 100 := (hz.2 176 (by decide)).1
theorem hc_176 {z : xZ} (hz : Lay z) : ((zl z 176 : Nat) : Int) = 10 := by rw [(hz.2 176 (by decide)).2.1 (by decide)]; rfl
theorem hh_177 {z : xZ} (hz : Lay z) : zh z 177 = 100 := (hz.2 177 (by decide)).1
theorem hc_177 {z : xZ} (hz : Lay z) : ((zl z 177 : Nat) : Int) = 10 := by rw [(hz.2 177 (by decide)).2.1 (by decide)]; rfl
theorem hh_178 {z : xZ} (hz : Lay z) : zh z 178 = 100 := (hz.2 178 (by decide)).1
theorem hc_178 {z : xZ} (hz : Lay z) : ((zl z 178 : Nat) : Int) = 10 := by rw [(hz.2 178 (by decide)).2.1 (by decide)]; rfl
theorem hh_179 {z : xZ} (hz : Lay z) : zh z 179 = 100 := (hz.2 179 (by decide)).1
theorem hc_179 {z : xZ} (hz : Lay z) : ((zl z 179 : Nat) : Int) = 10 := by rw [(hz.2 179 (by decide)).2.1 (by decide)]; rfl
theorem hh_180 {z : xZ} (hz : Lay z) : zh z 180 = 100 := (hz.2 180 (by decide)).1
theorem hc_180 {z : xZ} (hz : Lay z) : ((zl z 180 : Nat) : Int) = 10 := by rw [(hz.2 180 (by decide)).2.1 (by decide)]; rfl
theorem hh_181 {z : xZ} (hz : Lay z) : zh z 181 = 6 := (hz.2 181 (by decide)).1
theorem hr_181_1 {z : xZ} (hz : Lay z) : zr z 181 1 = 182 := (hz.2 181 (by decide)).2.2 1 (by decide)
theorem hr_181_2 {z : xZ} (hz : Lay z) : zr z 181 2 = 183 := (hz.2 181 (by decide)).2.2 2 (by decide)
theorem hr_181_3 {z : xZ} (hz : Lay z) : zr z 181 3 = 184 := (hz.2 181 (by decide)).2.2 3 (by decide)
theorem hr_181_4 {z : xZ} (hz : Lay z) : zr z 181 4 = 185 := (hz.2 181 (by decide)).2.2 4 (by decide)
theorem hr_181_5 {z : xZ} (hz : Lay z) : zr z 181 5 = 186 := (hz.2 181 (by decide)).2.2 5 (by decide)
theorem hr_181_6 {z : xZ} (hz : Lay z) : zr z 181 6 = 187 := (hz.2 181 (by decide)).2.2 6 (by decide)
theorem hr_181_7 {z : xZ} (hz : Lay z) : zr z 181 7 = 188 := (hz.2 181 (by decide)).2.2 7 (by decide)
theorem hr_181_8 {z : xZ} (hz : Lay z) : zr z 181 8 = 189 := (hz.2 181 (by decide)).2.2 8 (by decide)
theorem hh_182 {z : xZ} (hz : Lay z) : zh z 182 = 100 := (hz.2 182 (by decide)).1
theorem hc_182 {z : xZ} (hz : Lay z) : ((zl z 182 : Nat) : Int) = 64 := by rw [(hz.2 182 (by decide)).2.1 (by decide)]; rfl
theorem hh_183 {z : xZ} (hz : Lay z) : zh z 183 = 100 := (hz.2 183 (by decide)).1
theorem hc_183 {z : xZ} (hz : Lay z) : ((zl z 183 : Nat) : Int) = 64 := by rw [(hz.2 183 (by decide)).2.1 (by decide)]; rfl
theorem hh_184 {z : xZ} (hz : Lay z) : zh z 184 = 100 := (hz.2 184 (by decide)).1
theorem hc_184 {z : xZ} (hz : Lay z) : ((zl z 184 : Nat) : Int) = 64 := by rw [(hz.2 184 (by decide)).2.1 (by decide)]; rfl
theorem hh_185 {z : xZ} (hz : Lay z) : zh z 185 = 100 := (hz.2 185 (by decide)).1
theorem hc_185 {z : xZ} (hz : Lay z) : ((zl z 185 : Nat) : Int) = 10 := by rw [(hz.2 185 (by decide)).2.1 (by decide)]; rfl
theorem hh_186 {z : xZ} (hz : Lay z) : zh z 186 = 100 := (hz.2 186 (by decide)).1
theorem hc_186 {z : xZ} (hz : Lay z) : ((zl z 186 : Nat) : Int) = 10 := by rw [(hz.2 186 (by decide)).2.1 (by decide)]; rfl
theorem hh_187 {z : xZ} (hz : Lay z) : zh z 187 = 100 := (hz.2 187 (by decide)).1
theorem hc_187 {z : xZ} (hz : Lay z) : ((zl z 187 : Nat) : Int) = 10 := by rw [(hz.2 187 (by decide)).2.1 (by decide)]; rfl
theorem hh_188 {z : xZ} (hz : Lay z) : zh z 188 = 100 := (hz.2 188 (by decide)).1
theorem hc_188 {z : xZ} (hz : Lay z) : ((zl z 188 : Nat) : Int) = 10 := by rw [(hz.2 188 (by decide)).2.1 (by decide)]; rfl
theorem hh_189 {z : xZ} (hz : Lay z) : zh z 189 = 100 := (hz.2 189 (by decide)).1
theorem hc_189 {z : xZ} (hz : Lay z) : ((zl z 189 : Nat) : Int) = 10 := by rw [(hz.2 189 (by decide)).2.1 (by decide)]; rfl
theorem hh_190 {z : xZ} (hz : Lay z) : zh z 190 = 6 := (hz.2 190 (by decide)).1
theorem hr_190_1 {z : xZ} (hz : Lay z) : zr z 190 1 = 191 := (hz.2 190 (by decide)).2.2 1 (by decide)
theorem hr_190_2 {z : xZ} (hz : Lay z) : zr z 190 2 = 192 := (hz.2 190 (by decide)).2.2 2 (by decide)
theorem hr_190_3 {z : xZ} (hz : Lay z) : zr z 190 3 = 193 := (hz.2 190 (by decide)).2.2 3 (by decide)
theorem hr_190_4 {z : xZ} (hz : Lay z) : zr z 190 4 = 194 := (hz.2 190 (by decide)).2.2 4 (by decide)
theorem hr_190_5 {z : xZ} (hz : Lay z) : zr z 190 5 = 195 := (hz.2 190 (by decide)).2.2 5 (by decide)
theorem hr_190_6 {z : xZ} (hz : Lay z) : zr z 190 6 = 196 := (hz.2 190 (by decide)).2.2 6 (by decide)
theorem hr_190_7 {z : xZ} (hz : Lay z) : zr z 190 7 = 197 := (hz.2 190 (by decide)).2.2 7 (by decide)
theorem hr_190_8 {z : xZ} (hz : Lay z) : zr z 190 8 = 198 := (hz.2 190 (by decide)).2.2 8 (by decide)
theorem hh_191 {z : xZ} (hz : Lay z) : zh z 191 = 100 := (hz.2 191 (by decide)).1
theorem hc_191 {z : xZ} (hz : Lay z) : ((zl z 191 : Nat) : Int) = 64 := by rw [(hz.2 191 (by decide)).2.1 (by decide)]; rfl
theorem hh_192 {z : xZ} (hz : Lay z) : zh z 192 = 100 := (hz.2 192 (by decide)).1
theorem hc_192 {z : xZ} (hz : Lay z) : ((zl z 192 : Nat) : Int) = 64 := by rw [(hz.2 192 (by decide)).2.1 (by decide)]; rfl
theorem hh_193 {z : xZ} (hz : Lay z) : zh z 193 = 100 := (hz.2 193 (by decide)).1
theorem hc_193 {z : xZ} (hz : Lay z) : ((zl z 193 : Nat) : Int) = 64 := by rw [(hz.2 193 (by decide)).2.1 (by decide)]; rfl
theorem hh_194 {z : xZ} (hz : Lay z) : zh z 194 = 100 := (hz.2 194 (by decide)).1
theorem hc_194 {z : xZ} (hz : Lay z) : ((zl z 194 : Nat) : Int) = 10 := by rw [(hz.2 194 (by decide)).2.1 (by decide)]; rfl
theorem hh_195 {z : xZ} (hz : Lay z) : zh z 195 = 100 := (hz.2 195 (by decide)).1
theorem hc_195 {z : xZ} (hz : Lay z) : ((zl z 195 : Nat) : Int) = 10 := by rw [(hz.2 195 (by decide)).2.1 (by decide)]; rfl
theorem hh_196 {z : xZ} (hz : Lay z) : zh z 196 = 100 := (hz.2 196 (by decide)).1
theorem hc_196 {z : xZ} (hz : Lay z) : ((zl z 196 : Nat) : Int) = 10 := by rw [(hz.2 196 (by decide)).2.1 (by decide)]; rfl
theorem hh_197 {z : xZ} (hz : Lay z) : zh z 197 = 100 := (hz.2 197 (by decide)).1
theorem hc_197 {z : xZ} (hz : Lay z) : ((zl z 197 : Nat) : Int) = 10 := by rw [(hz.2 197 (by decide)).2.1 (by decide)]; rfl
theorem hh_198 {z : xZ} (hz : Lay z) : zh z 198 = 100 := (hz.2 198 (by decide)).1
theorem hc_198 {z : xZ} (hz : Lay z) : ((zl z 198 : Nat) : Int) = 10 := by rw [(hz.2 198 (by decide)).2.1 (by decide)]; rfl
theorem hh_199 {z : xZ} (hz : Lay z) : zh z 199 = 6 := (hz.2 199 (by decide)).1
theorem hr_199_1 {z : xZ} (hz : Lay z) : zr z 199 1 = 200 := (hz.2 199 (by decide)).2.2 1 (by decide)
theorem hr_199_2 {z : xZ} (hz : Lay z) : zr z 199 2 = 201 := (hz.2 199 (by decide)).2.2 2 (by decide)
theorem hr_199_3 {z : xZ} (hz : Lay z) : zr z 199 3 = 202 := (hz.2 199 (by decide)).2.2 3 (by decide)
theorem hr_199_4 {z : xZ} (hz : Lay z) : zr z 199 4 = 203 := (hz.2 199 (by decide)).2.2 4 (by decide)
theorem hr_199_5 {z : xZ} (hz : Lay z) : zr z 199 5 = 204 := (hz.2 199 (by decide)).2.2 5 (by decide)
theorem hr_199_6 {z : xZ} (hz : Lay z) : zr z 199 6 = 205 := (hz.2 199 (by decide)).2.2 6 (by decide)
theorem hr_199_7 {z : xZ} (hz : Lay z) : zr z 199 7 = 206 := (hz.2 199 (by decide)).2.2 7 (by decide)
theorem hr_199_8 {z : xZ} (hz : Lay z) : zr z 199 8 = 207 := (hz.2 199 (by decide)).2.2 8 (by decide)
theorem hh_200 {z : xZ} (hz : Lay z) : zh z 200 = 100 := (hz.2 200 (by decide)).1
theorem hc_200 {z : xZ} (hz : Lay z) : ((zl z 200 : Nat) : Int) = 64 := by rw [(hz.2 200 (by decide)).2.1 (by decide)]; rfl
theorem hh_201 {z : xZ} (hz : Lay z) : zh z 201 = 100 := (hz.2 201 (by decide)).1
theorem hc_201 {z : xZ} (hz : Lay z) : ((zl z 201 : Nat) : Int) = 64 := by rw [(hz.2 201 (by decide)).2.1 (by decide)]; rfl
theorem hh_202 {z : xZ} (hz : Lay z) : zh z 202 = 100 := (hz.2 202 (by decide)).1
theorem hc_202 {z : xZ} (hz : Lay z) : ((zl z 202 : Nat) : Int) = 64 := by rw [(hz.2 202 (by decide)).2.1 (by decide)]; rfl
theorem hh_203 {z : xZ} (hz : Lay z) : zh z 203 = 100 := (hz.2 203 (by decide)).1
theorem hc_203 {z : xZ} (hz : Lay z) : ((zl z 203 : Nat) : Int) = 10 := by rw [(hz.2 203 (by decide)).2.1 (by decide)]; rfl
theorem hh_204 {z : xZ} (hz : Lay z) : zh z 204 = 100 := (hz.2 204 (by decide)).1
theorem hc_204 {z : xZ} (hz : Lay z) : ((zl z 204 : Nat) : Int) = 10 := by rw [(hz.2 204 (by decide)).2.1 (by decide)]; rfl
theorem hh_205 {z : xZ} (hz : Lay z) : zh z 205 = 100 := (hz.2 205 (by decide)).1
theorem hc_205 {z : xZ} (hz : Lay z) : ((zl z 205 : Nat) : Int) = 10 := by rw [(hz.2 205 (by decide)).2.1 (by decide)]; rfl
theorem hh_206 {z : xZ} (hz : Lay z) : zh z 206 = 100 := (hz.2 206 (by decide)).1
theorem hc_206 {z : xZ} (hz : Lay z) : ((zl z 206 : Nat) : Int) = 10 := by rw [(hz.2 206 (by decide)).2.1 (by decide)]; rfl
theorem hh_207 {z : xZ} (hz : Lay z) : zh z 207 = 100 := (hz.2 207 (by decide)).1
theorem hc_207 {z : xZ} (hz : Lay z) : ((zl z 207 : Nat) : Int) = 10 := by rw [(hz.2 207 (by decide)).2.1 (by decide)]; rfl
theorem hh_208 {z : xZ} (hz : Lay z) : zh z 208 = 10 := (hz.2 208 (by decide)).1
theorem hr_208_1 {z : xZ} (hz : Lay z) : zr z 208 1 = 209 := (hz.2 208 (by decide)).2.2 1 (by decide)
theorem hr_208_2 {z : xZ} (hz : Lay z) : zr z 208 2 = 210 := (hz.2 208 (by decide)).2.2 2 (by decide)
theorem hr_208_4 {z : xZ} (hz : Lay z) : zr z 208 4 = 211 := (hz.2 208 (by decide)).2.2 4 (by decide)
theorem hr_208_7 {z : xZ} (hz : Lay z) : zr z 208 7 = 212 := (hz.2 208 (by decide)).2.2 7 (by decide)
theorem hr_208_8 {z : xZ} (hz : Lay z) : zr z 208 8 = 213 := (hz.2 208 (by decide)).2.2 8 (by decide)
theorem hr_208_9 {z : xZ} (hz : Lay z) : zr z 208 9 = 214 := (hz.2 208 (by decide)).2.2 9 (by decide)
theorem hr_208_15 {z : xZ} (hz : Lay z) : zr z 208 15 = 215 := (hz.2 208 (by decide)).2.2 15 (by decide)
theorem hr_208_16 {z : xZ} (hz : Lay z) : zr z 208 16 = 216 := (hz.2 208 (by decide)).2.2 16 (by decide)
theorem hr_208_17 {z : xZ} (hz : Lay z) : zr z 208 17 = 217 := (hz.2 208 (by decide)).2.2 17 (by decide)
theorem hr_208_18 {z : xZ} (hz : Lay z) : zr z 208 18 = 218 := (hz.2 208 (by decide)).2.2 18 (by decide)
theorem hr_208_19 {z : xZ} (hz : Lay z) : zr z 208 19 = 219 := (hz.2 208 (by decide)).2.2 19 (by decide)
theorem hr_208_20 {z : xZ} (hz : Lay z) : zr z 208 20 = 220 := (hz.2 208 (by decide)).2.2 20 (by decide)
theorem hr_208_21 {z : xZ} (hz : Lay z) : zr z 208 21 = 221 := (hz.2 208 (by decide)).2.2 21 (by decide)
theorem hr_208_22 {z : xZ} (hz : Lay z) : zr z 208 22 = 222 := (hz.2 208 (by decide)).2.2 22 (by decide)
theorem hr_208_26 {z : xZ} (hz : Lay z) : zr z 208 26 = 223 := (hz.2 208 (by decide)).2.2 26 (by decide)
theorem hr_208_33 {z : xZ} (hz : Lay z) : zr z 208 33 = 224 := (hz.2 208 (by decide)).2.2 33 (by decide)
theorem hr_208_35 {z : xZ} (hz : Lay z) : zr z 208 35 = 225 := (hz.2 208 (by decide)).2.2 35 (by decide)
theorem hr_208_36 {z : xZ} (hz : Lay z) : zr z 208 36 = 226 := (hz.2 208 (by decide)).2.2 36 (by decide)
theorem hr_208_38 {z : xZ} (hz : Lay z) : zr z 208 38 = 227 := (hz.2 208 (by decide)).2.2 38 (by decide)
theorem hr_208_39 {z : xZ} (hz : Lay z) : zr z 208 39 = 228 := (hz.2 208 (by decide)).2.2 39 (by decide)
theorem hr_208_40 {z : xZ} (hz : Lay z) : zr z 208 40 = 229 := (hz.2 208 (by decide)).2.2 40 (by decide)
theorem hr_208_41 {z : xZ} (hz : Lay z) : zr z 208 41 = 230 := (hz.2 208 (by decide)).2.2 41 (by decide)
theorem hr_208_42 {z : xZ} (hz : Lay z) : zr z 208 42 = 231 := (hz.2 208 (by decide)).2.2 42 (by decide)
theorem hr_208_43 {z : xZ} (hz : Lay z) : zr z 208 43 = 232 := (hz.2 208 (by decide)).2.2 43 (by decide)
theorem hr_208_44 {z : xZ} (hz : Lay z) : zr z 208 44 = 233 := (hz.2 208 (by decide)).2.2 44 (by decide)
theorem hr_208_45 {z : xZ} (hz : Lay z) : zr z 208 45 = 234 := (hz.2 208 (by decide)).2.2 45 (by decide)
theorem hr_208_47 {z : xZ} (hz : Lay z) : zr z 208 47 = 235 := (hz.2 208 (by decide)).2.2 47 (by decide)
theorem hr_208_48 {z : xZ} (hz : Lay z) : zr z 208 48 = 236 := (hz.2 208 (by decide)).2.2 48 (by decide)
theorem hr_208_49 {z : xZ} (hz : Lay z) : zr z 208 49 = 237 := (hz.2 208 (by decide)).2.2 49 (by decide)
theorem hr_208_50 {z : xZ} (hz : Lay z) : zr z 208 50 = 238 := (hz.2 208 (by decide)).2.2 50 (by decide)
theorem hr_208_51 {z : xZ} (hz : Lay z) : zr z 208 51 = 239 := (hz.2 208 (by decide)).2.2 51 (by decide)
theorem hr_208_52 {z : xZ} (hz : Lay z) : zr z 208 52 = 240 := (hz.2 208 (by decide)).2.2 52 (by decide)
theorem hr_208_53 {z : xZ} (hz : Lay z) : zr z 208 53 = 241 := (hz.2 208 (by decide)).2.2 53 (by decide)
theorem hr_208_55 {z : xZ} (hz : Lay z) : zr z 208 55 = 242 := (hz.2 208 (by decide)).2.2 55 (by decide)
theorem hr_208_57 {z : xZ} (hz : Lay z) : zr z 208 57 = 243 := (hz.2 208 (by decide)).2.2 57 (by decide)
theorem hr_208_58 {z : xZ} (hz : Lay z) : zr z 208 58 = 244 := (hz.2 208 (by decide)).2.2 58 (by decide)
theorem hr_208_60 {z : xZ} (hz : Lay z) : zr z 208 60 = 245 := (hz.2 208 (by decide)).2.2 60 (by decide)
theorem hr_208_62 {z : xZ} (hz : Lay z) : zr z 208 62 = 246 := (hz.2 208 (by decide)).2.2 62 (by decide)
theorem hr_208_63 {z : xZ} (hz : Lay z) : zr z 208 63 = 247 := (hz.2 208 (by decide)).2.2 63 (by decide)
theorem hr_208_64 {z : xZ} (hz : Lay z) : zr z 208 64 = 248 := (hz.2 208 (by decide)).2.2 64 (by decide)
theorem hr_208_68 {z : xZ} (hz : Lay z) : zr z 208 68 = 249 := (hz.2 208 (by decide)).2.2 68 (by decide)
theorem hh_209 {z : xZ} (hz : Lay z) : zh z 209 = 100 := (hz.2 209 (by decide)).1
theorem hc_209 {z : xZ} (hz : Lay z) : ((zl z 209 : Nat) : Int) = 247 := by rw [(hz.2 209 (by decide)).2.1 (by decide)]; rfl
theorem hh_210 {z : xZ} (hz : Lay z) : zh z 210 = 100 := (hz.2 210 (by decide)).1
theorem hc_210 {z : xZ} (hz : Lay z) : ((zl z 210 : Nat) : Int) = 1482 := by rw [(hz.2 210 (by decide)).2.1 (by decide)]; rfl
theorem hh_211 {z : xZ} (hz : Lay z) : zh z 211 = 100 := (hz.2 211 (by decide)).1
theorem hc_211 {z : xZ} (hz : Lay z) : ((zl z 211 : Nat) : Int) = 247 := by rw [(hz.2 211 (by decide)).2.1 (by decide)]; rfl
theorem hh_212 {z : xZ} (hz : Lay z) : zh z 212 = 100 := (hz.2 212 (by decide)).1
theorem hc_212 {z : xZ} (hz : Lay z) : ((zl z 212 : Nat) : Int) = 10 := by rw [(hz.2 212 (by decide)).2.1 (by decide)]; rfl
theorem hh_213 {z : xZ} (hz : Lay z) : zh z 213 = 100 := (hz.2 213 (by decide)).1
theorem hc_213 {z : xZ} (hz : Lay z) : ((zl z 213 : Nat) : Int) = 600 := by rw [(hz.2 213 (by decide)).2.1 (by decide)]; rfl
theorem hh_214 {z : xZ} (hz : Lay z) : zh z 214 = 100 := (hz.2 214 (by decide)).1
theorem hc_214 {z : xZ} (hz : Lay z) : ((zl z 214 : Nat) : Int) = 400 := by rw [(hz.2 214 (by decide)).2.1 (by decide)]; rfl
theorem hh_215 {z : xZ} (hz : Lay z) : zh z 215 = 100 := (hz.2 215 (by decide)).1
theorem hc_215 {z : xZ} (hz : Lay z) : ((zl z 215 : Nat) : Int) = 138 := by rw [(hz.2 215 (by decide)).2.1 (by decide)]; rfl
theorem hh_216 {z : xZ} (hz : Lay z) : zh z 216 = 100 := (hz.2 216 (by decide)).1
theorem hc_216 {z : xZ} (hz : Lay z) : ((zl z 216 : Nat) : Int) = 2 := by rw [(hz.2 216 (by decide)).2.1 (by decide)]; rfl
theorem hh_217 {z : xZ} (hz : Lay z) : zh z 217 = 100 := (hz.2 217 (by decide)).1
theorem hc_217 {z : xZ} (hz : Lay z) : ((zl z 217 : Nat) : Int) = 48 := by rw [(hz.2 217 (by decide)).2.1 (by decide)]; rfl
theorem hh_218 {z : xZ} (hz : Lay z) : zh z 218 = 100 := (hz.2 218 (by decide)).1
theorem hc_218 {z : xZ} (hz : Lay z) : ((zl z 218 : Nat) : Int) = 48 := by rw [(hz.2 218 (by decide)).2.1 (by decide)]; rfl
theorem hh_219 {z : xZ} (hz : Lay z) : zh z 219 = 100 := (hz.2 219 (by decide)).1
theorem hc_219 {z : xZ} (hz : Lay z) : ((zl z 219 : Nat) : Int) = 48 := by rw [(hz.2 219 (by decide)).2.1 (by decide)]; rfl
theorem hh_220 {z : xZ} (hz : Lay z) : zh z 220 = 100 := (hz.2 220 (by decide)).1
theorem hc_220 {z : xZ} (hz : Lay z) : ((zl z 220 : Nat) : Int) = 48 := by rw [(hz.2 220 (by decide)).2.1 (by decide)]; rfl
theorem hh_221 {z : xZ} (hz : Lay z) : zh z 221 = 100 := (hz.2 221 (by decide)).1
theorem hc_221 {z : xZ} (hz : Lay z) : ((zl z 221 : Nat) : Int) = 1200 := by rw [(hz.2 221 (by decide)).2.1 (by decide)]; rfl
theorem hh_222 {z : xZ} (hz : Lay z) : zh z 222 = 100 := (hz.2 222 (by decide)).1
theorem hc_222 {z : xZ} (hz : Lay z) : ((zl z 222 : Nat) : Int) = 1200 := by rw [(hz.2 222 (by decide)).2.1 (by decide)]; rfl
theorem hh_223 {z : xZ} (hz : Lay z) : zh z 223 = 100 := (hz.2 223 (by decide)).1
theorem hc_223 {z : xZ} (hz : Lay z) : ((zl z 223 : Nat) : Int) = 40 := by rw [(hz.2 223 (by decide)).2.1 (by decide)]; rfl
theorem hh_224 {z : xZ} (hz : Lay z) : zh z 224 = 100 := (hz.2 224 (by decide)).1
theorem hc_224 {z : xZ} (hz : Lay z) : ((zl z 224 : Nat) : Int) = 128 := by rw [(hz.2 224 (by decide)).2.1 (by decide)]; rfl
theorem hh_225 {z : xZ} (hz : Lay z) : zh z 225 = 100 := (hz.2 225 (by decide)).1
theorem hc_225 {z : xZ} (hz : Lay z) : ((zl z 225 : Nat) : Int) = 16 := by rw [(hz.2 225 (by decide)).2.1 (by decide)]; rfl
theorem hh_226 {z : xZ} (hz : Lay z) : zh z 226 = 100 := (hz.2 226 (by decide)).1
theorem hc_226 {z : xZ} (hz : Lay z) : ((zl z 226 : Nat) : Int) = 16 := by rw [(hz.2 226 (by decide)).2.1 (by decide)]; rfl
theorem hh_227 {z : xZ} (hz : Lay z) : zh z 227 = 100 := (hz.2 227 (by decide)).1
theorem hc_227 {z : xZ} (hz : Lay z) : ((zl z 227 : Nat) : Int) = 96 := by rw [(hz.2 227 (by decide)).2.1 (by decide)]; rfl
theorem hh_228 {z : xZ} (hz : Lay z) : zh z 228 = 100 := (hz.2 228 (by decide)).1
theorem hc_228 {z : xZ} (hz : Lay z) : ((zl z 228 : Nat) : Int) = 10 := by rw [(hz.2 228 (by decide)).2.1 (by decide)]; rfl
theorem hh_229 {z : xZ} (hz : Lay z) : zh z 229 = 100 := (hz.2 229 (by decide)).1
theorem hc_229 {z : xZ} (hz : Lay z) : ((zl z 229 : Nat) : Int) = 420 := by rw [(hz.2 229 (by decide)).2.1 (by decide)]; rfl
theorem hh_230 {z : xZ} (hz : Lay z) : zh z 230 = 100 := (hz.2 230 (by decide)).1
theorem hc_230 {z : xZ} (hz : Lay z) : ((zl z 230 : Nat) : Int) = 64 := by rw [(hz.2 230 (by decide)).2.1 (by decide)]; rfl
theorem hh_231 {z : xZ} (hz : Lay z) : zh z 231 = 100 := (hz.2 231 (by decide)).1
theorem hc_231 {z : xZ} (hz : Lay z) : ((zl z 231 : Nat) : Int) = 64 := by rw [(hz.2 231 (by decide)).2.1 (by decide)]; rfl
theorem hh_232 {z : xZ} (hz : Lay z) : zh z 232 = 100 := (hz.2 232 (by decide)).1
theorem hc_232 {z : xZ} (hz : Lay z) : ((zl z 232 : Nat) : Int) = 64 := by rw [(hz.2 232 (by decide)).2.1 (by decide)]; rfl
theorem hh_233 {z : xZ} (hz : Lay z) : zh z 233 = 100 := (hz.2 233 (by decide)).1
theorem hc_233 {z : xZ} (hz : Lay z) : ((zl z 233 : Nat) : Int) = 64 := by rw [(hz.2 233 (by decide)).2.1 (by decide)]; rfl
theorem hh_234 {z : xZ} (hz : Lay z) : zh z 234 = 100 := (hz.2 234 (by decide)).1
theorem hc_234 {z : xZ} (hz : Lay z) : ((zl z 234 : Nat) : Int) = 8 := by rw [(hz.2 234 (by decide)).2.1 (by decide)]; rfl
theorem hh_235 {z : xZ} (hz : Lay z) : zh z 235 = 100 := (hz.2 235 (by decide)).1
theorem hc_235 {z : xZ} (hz : Lay z) : ((zl z 235 : Nat) : Int) = 12 := by rw [(hz.2 235 (by decide)).2.1 (by decide)]; rfl
theorem hh_236 {z : xZ} (hz : Lay z) : zh z 236 = 100 := (hz.2 236 (by decide)).1
theorem hc_236 {z : xZ} (hz : Lay z) : ((zl z 236 : Nat) : Int) = 169 := by rw [(hz.2 236 (by decide)).2.1 (by decide)]; rfl
theorem hh_237 {z : xZ} (hz : Lay z) : zh z 237 = 100 := (hz.2 237 (by decide)).1
theorem hc_237 {z : xZ} (hz : Lay z) : ((zl z 237 : Nat) : Int) = 8 := by rw [(hz.2 237 (by decide)).2.1 (by decide)]; rfl
theorem hh_238 {z : xZ} (hz : Lay z) : zh z 238 = 100 := (hz.2 238 (by decide)).1
theorem hc_238 {z : xZ} (hz : Lay z) : ((zl z 238 : Nat) : Int) = 4 := by rw [(hz.2 238 (by decide)).2.1 (by decide)]; rfl
theorem hh_239 {z : xZ} (hz : Lay z) : zh z 239 = 100 := (hz.2 239 (by decide)).1
theorem hc_239 {z : xZ} (hz : Lay z) : ((zl z 239 : Nat) : Int) = 4 := by rw [(hz.2 239 (by decide)).2.1 (by decide)]; rfl
theorem hh_240 {z : xZ} (hz : Lay z) : zh z 240 = 100 := (hz.2 240 (by decide)).1
theorem hc_240 {z : xZ} (hz : Lay z) : ((zl z 240 : Nat) : Int) = 4 := by rw [(hz.2 240 (by decide)).2.1 (by decide)]; rfl
theorem hh_241 {z : xZ} (hz : Lay z) : zh z 241 = 100 := (hz.2 241 (by decide)).1
theorem hc_241 {z : xZ} (hz : Lay z) : ((zl z 241 : Nat) : Int) = 4509 := by rw [(hz.2 241 (by decide)).2.1 (by decide)]; rfl
theorem hh_242 {z : xZ} (hz : Lay z) : zh z 242 = 100 := (hz.2 242 (by decide)).1
theorem hc_242 {z : xZ} (hz : Lay z) : ((zl z 242 : Nat) : Int) = 12 := by rw [(hz.2 242 (by decide)).2.1 (by decide)]; rfl
theorem hh_243 {z : xZ} (hz : Lay z) : zh z 243 = 100 := (hz.2 243 (by decide)).1
theorem hc_243 {z : xZ} (hz : Lay z) : ((zl z 243 : Nat) : Int) = 9 := by rw [(hz.2 243 (by decide)).2.1 (by decide)]; rfl
theorem hh_244 {z : xZ} (hz : Lay z) : zh z 244 = 100 := (hz.2 244 (by decide)).1
theorem hc_244 {z : xZ} (hz : Lay z) : ((zl z 244 : Nat) : Int) = 3 := by rw [(hz.2 244 (by decide)).2.1 (by decide)]; rfl
theorem hh_245 {z : xZ} (hz : Lay z) : zh z 245 = 100 := (hz.2 245 (by decide)).1
theorem hc_245 {z : xZ} (hz : Lay z) : ((zl z 245 : Nat) : Int) = 8 := by rw [(hz.2 245 (by decide)).2.1 (by decide)]; rfl
theorem hh_246 {z : xZ} (hz : Lay z) : zh z 246 = 100 := (hz.2 246 (by decide)).1
theorem hc_246 {z : xZ} (hz : Lay z) : ((zl z 246 : Nat) : Int) = 10 := by rw [(hz.2 246 (by decide)).2.1 (by decide)]; rfl
theorem hh_247 {z : xZ} (hz : Lay z) : zh z 247 = 100 := (hz.2 247 (by decide)).1
theorem hc_247 {z : xZ} (hz : Lay z) : ((zl z 247 : Nat) : Int) = 7776 := by rw [(hz.2 247 (by decide)).2.1 (by decide)]; rfl
theorem hh_248 {z : xZ} (hz : Lay z) : zh z 248 = 100 := (hz.2 248 (by decide)).1
theorem hc_248 {z : xZ} (hz : Lay z) : ((zl z 248 : Nat) : Int) = 5 := by rw [(hz.2 248 (by decide)).2.1 (by decide)]; rfl
theorem hh_249 {z : xZ} (hz : Lay z) : zh z 249 = 100 := (hz.2 249 (by decide)).1
theorem hc_249 {z : xZ} (hz : Lay z) : ((zl z 249 : Nat) : Int) = 2400 := by rw [(hz.2 249 (by decide)).2.1 (by decide)]; rfl
/-- a scene at s -/
def Sc (z : xZ) (s : Nat) : Prop := zh z s = 6 ∧ zr z s 1 = s + 1 ∧ zr z s 2 = s + 2 ∧ zr z s 3 = s + 3 ∧ zr z s 4 = s + 4 ∧ zr z s 5 = s + 5 ∧ zr z s 6 = s + 6 ∧ zr z s 7 = s + 7 ∧ zr z s 8 = s + 8 ∧ zh z (s + 1) = 100 ∧ zh z (s + 2) = 100 ∧ zh z (s + 3) = 100 ∧ zh z (s + 4) = 100 ∧ zh z (s + 5) = 100 ∧ zh z (s + 6) = 100 ∧ zh z (s + 7) = 100 ∧ zh z (s + 8) = 100 ∧ zl z (s + 1) = 64 ∧ zl z (s + 2) = 64 ∧ zl z (s + 3) = 64 ∧ zl z (s + 4) = 10 ∧ zl z (s + 5) = 10 ∧ zl z (s + 6) = 10 ∧ zl z (s + 7) = 10 ∧ zl z (s + 8) = 10
theorem scn_h {z : xZ} {s : Nat} (hs : Sc z s) : zh z s = 6 := hs.1
theorem scn_r1 {z : xZ} {s : Nat} (hs : Sc z s) : zr z s 1 = s + 1 := hs.2.1
theorem scn_r2 {z : xZ} {s : Nat} (hs : Sc z s) : zr z s 2 = s + 2 := hs.2.2.1
theorem scn_r3 {z : xZ} {s : Nat} (hs : Sc z s) : zr z s 3 = s + 3 := hs.2.2.2.1
theorem scn_r4 {z : xZ} {s : Nat} (hs : Sc z s) : zr z s 4 = s + 4 := hs.2.2.2.2.1
theorem scn_r5 {z : xZ} {s : Nat} (hs : Sc z s) : zr z s 5 = s + 5 := hs.2.2.2.2.2.1
theorem scn_r6 {z : xZ} {s : Nat} (hs : Sc z s) : zr z s 6 = s + 6 := hs.2.2.2.2.2.2.1
theorem scn_r7 {z : xZ} {s : Nat} (hs : Sc z s) : zr z s 7 = s + 7 := hs.2.2.2.2.2.2.2.1
theorem scn_r8 {z : xZ} {s : Nat} (hs : Sc z s) : zr z s 8 = s + 8 := hs.2.2.2.2.2.2.2.2.1
theorem scn_k1 {z : xZ} {s : Nat} (hs : Sc z s) : zh z (s + 1) = 100 := hs.2.2.2.2.2.2.2.2.2.1
theorem scn_k2 {z : xZ} {s : Nat} (hs : Sc z s) : zh z (s + 2) = 100 := hs.2.2.2.2.2.2.2.2.2.2.1
theorem scn_k3 {z : xZ} {s : Nat} (hs : Sc z s) : zh z (s + 3) = 100 := hs.2.2.2.2.2.2.2.2.2.2.2.1
theorem scn_k4 {z : xZ} {s : Nat} (hs : Sc z s) : zh z (s + 4) = 100 := hs.2.2.2.2.2.2.2.2.2.2.2.2.1
theorem scn_k5 {z : xZ} {s : Nat} (hs : Sc z s) : zh z (s + 5) = 100 := hs.2.2.2.2.2.2.2.2.2.2.2.2.2.1
theorem scn_k6 {z : xZ} {s : Nat} (hs : Sc z s) : zh z (s + 6) = 100 := hs.2.2.2.2.2.2.2.2.2.2.2.2.2.2.1
theorem scn_k7 {z : xZ} {s : Nat} (hs : Sc z s) : zh z (s + 7) = 100 := hs.2.2.2.2.2.2.2.2.2.2.2.2.2.2.2.1
theorem scn_k8 {z : xZ} {s : Nat} (hs : Sc z s) : zh z (s + 8) = 100 := hs.2.2.2.2.2.2.2.2.2.2.2.2.2.2.2.2.1
theorem scn_c1 {z : xZ} {s : Nat} (hs : Sc z s) : ((zl z (s + 1) : Nat) : Int) = 64 := by rw [hs.2.2.2.2.2.2.2.2.2.2.2.2.2.2.2.2.2.1]; rfl
theorem scn_c2 {z : xZ} {s : Nat} (hs : Sc z s) : ((zl z (s + 2) : Nat) : Int) = 64 := by rw [hs.2.2.2.2.2.2.2.2.2.2.2.2.2.2.2.2.2.2.1]; rfl
theorem scn_c3 {z : xZ} {s : Nat} (hs : Sc z s) : ((zl z (s + 3) : Nat) : Int) = 64 := by rw [hs.2.2.2.2.2.2.2.2.2.2.2.2.2.2.2.2.2.2.2.1]; rfl
theorem scn_c4 {z : xZ} {s : Nat} (hs : Sc z s) : ((zl z (s + 4) : Nat) : Int) = 10 := by rw [hs.2.2.2.2.2.2.2.2.2.2.2.2.2.2.2.2.2.2.2.2.1]; rfl
theorem scn_c5 {z : xZ} {s : Nat} (hs : Sc z s) : ((zl z (s + 5) : Nat) : Int) = 10 := by rw [hs.2.2.2.2.2.2.2.2.2.2.2.2.2.2.2.2.2.2.2.2.2.1]; rfl
theorem scn_c6 {z : xZ} {s : Nat} (hs : Sc z s) : ((zl z (s + 6) : Nat) : Int) = 10 := by rw [hs.2.2.2.2.2.2.2.2.2.2.2.2.2.2.2.2.2.2.2.2.2.2.1]; rfl
theorem scn_c7 {z : xZ} {s : Nat} (hs : Sc z s) : ((zl z (s + 7) : Nat) : Int) = 10 := by rw [hs.2.2.2.2.2.2.2.2.2.2.2.2.2.2.2.2.2.2.2.2.2.2.2.1]; rfl
theorem scn_c8 {z : xZ} {s : Nat} (hs : Sc z s) : ((zl z (s + 8) : Nat) : Int) = 10 := by rw [hs.2.2.2.2.2.2.2.2.2.2.2.2.2.2.2.2.2.2.2.2.2.2.2.2]; rfl
theorem sc_18 {z : xZ} (hz : Lay z) : Sc z 18 := ⟨(hz.2 18 (by decide)).1, (hz.2 18 (by decide)).2.2 1 (by decide), (hz.2 18 (by decide)).2.2 2 (by decide), (hz.2 18 (by decide)).2.2 3 (by decide), (hz.2 18 (by decide)).2.2 4 (by decide), (hz.2 18 (by decide)).2.2 5 (by decide), (hz.2 18 (by decide)).2.2 6 (by decide), (hz.2 18 (by decide)).2.2 7 (by decide), (hz.2 18 (by decide)).2.2 8 (by decide), (hz.2 19 (by decide)).1, (hz.2 20 (by decide)).1, (hz.2 21 (by decide)).1, (hz.2 22 (by decide)).1, (hz.2 23 (by decide)).1, (hz.2 24 (by decide)).1, (hz.2 25 (by decide)).1, (hz.2 26 (by decide)).1, (hz.2 19 (by decide)).2.1 (by decide), (hz.2 20 (by decide)).2.1 (by decide), (hz.2 21 (by decide)).2.1 (by decide), (hz.2 22 (by decide)).2.1 (by decide), (hz.2 23 (by decide)).2.1 (by decide), (hz.2 24 (by decide)).2.1 (by decide), (hz.2 25 (by decide)).2.1 (by decide), (hz.2 26 (by decide)).2.1 (by decide)⟩
theorem sc_71 {z : xZ} (hz : Lay z) : Sc z 71 := ⟨(hz.2 71 (by decide)).1, (hz.2 71 (by decide)).2.2 1 (by decide), (hz.2 71 (by decide)).2.2 2 (by decide), (hz.2 71 (by decide)).2.2 3 (by decide), (hz.2 71 (by decide)).2.2 4 (by decide), (hz.2 71 (by decide)).2.2 5 (by decide), (hz.2 71 (by decide)).2.2 6 (by decide), (hz.2 71 (by decide)).2.2 7 (by decide), (hz.2 71 (by decide)).2.2 8 (by decide), (hz.2 72 (by decide)).1, (hz.2 73 (by decide)).1, (hz.2 74 (by decide)).1, (hz.2 75 (by decide)).1, (hz.2 76 (by decide)).1, (hz.2 77 (by decide)).1, (hz.2 78 (by decide)).1, (hz.2 79 (by decide)).1, (hz.2 72 (by decide)).2.1 (by decide), (hz.2 73 (by decide)).2.1 (by decide), (hz.2 74 (by decide)).2.1 (by decide), (hz.2 75 (by decide)).2.1 (by decide), (hz.2 76 (by decide)).2.1 (by decide), (hz.2 77 (by decide)).2.1 (by decide), (hz.2 78 (by decide)).2.1 (by decide), (hz.2 79 (by decide)).2.1 (by decide)⟩
theorem sc_123 {z : xZ} (hz : Lay z) : Sc z 123 := ⟨(hz.2 123 (by decide)).1, (hz.2 123 (by decide)).2.2 1 (by decide), (hz.2 123 (by decide)).2.2 2 (by decide), (hz.2 123 (by decide)).2.2 3 (by decide), (hz.2 123 (by decide)).2.2 4 (by decide), (hz.2 123 (by decide)).2.2 5 (by decide), (hz.2 123 (by decide)).2.2 6 (by decide), (hz.2 123 (by decide)).2.2 7 (by decide), (hz.2 123 (by decide)).2.2 8 (by decide), (hz.2 124 (by decide)).1, (hz.2 125 (by decide)).1, (hz.2 126 (by decide)).1, (hz.2 127 (by decide)).1, (hz.2 128 (by decide)).1, (hz.2 129 (by decide)).1, (hz.2 130 (by decide)).1, (hz.2 131 (by decide)).1, (hz.2 124 (by decide)).2.1 (by decide), (hz.2 125 (by decide)).2.1 (by decide), (hz.2 126 (by decide)).2.1 (by decide), (hz.2 127 (by decide)).2.1 (by decide), (hz.2 128 (by decide)).2.1 (by decide), (hz.2 129 (by decide)).2.1 (by decide), (hz.2 130 (by decide)).2.1 (by decide), (hz.2 131 (by decide)).2.1 (by decide)⟩
theorem sc_154 {z : xZ} (hz : Lay z) : Sc z 154 := ⟨(hz.2 154 (by decide)).1, (hz.2 154 (by decide)).2.2 1 (by decide), (hz.2 154 (by decide)).2.2 2 (by decide), (hz.2 154 (by decide)).2.2 3 (by decide), (hz.2 154 (by decide)).2.2 4 (by decide), (hz.2 154 (by decide)).2.2 5 (by decide), (hz.2 154 (by decide)).2.2 6 (by decide), (hz.2 154 (by decide)).2.2 7 (by decide), (hz.2 154 (by decide)).2.2 8 (by decide), (hz.2 155 (by decide)).1, (hz.2 156 (by decide)).1, (hz.2 157 (by decide)).1, (hz.2 158 (by decide)).1, (hz.2 159 (by decide)).1, (hz.2 160 (by decide)).1, (hz.2 161 (by decide)).1, (hz.2 162 (by decide)).1, (hz.2 155 (by decide)).2.1 (by decide), (hz.2 156 (by decide)).2.1 (by decide), (hz.2 157 (by decide)).2.1 (by decide), (hz.2 158 (by decide)).2.1 (by decide), (hz.2 159 (by decide)).2.1 (by decide), (hz.2 160 (by decide)).2.1 (by decide), (hz.2 161 (by decide)).2.1 (by decide), (hz.2 162 (by decide)).2.1 (by decide)⟩
theorem sc_163 {z : xZ} (hz : Lay z) : Sc z 163 := ⟨(hz.2 163 (by decide)).1, (hz.2 163 (by decide)).2.2 1 (by decide), (hz.2 163 (by decide)).2.2 2 (by decide), (hz.2 163 (by decide)).2.2 3 (by decide), (hz.2 163 (by decide)).2.2 4 (by decide), (hz.2 163 (by decide)).2.2 5 (by decide), (hz.2 163 (by decide)).2.2 6 (by decide), (hz.2 163 (by decide)).2.2 7 (by decide), (hz.2 163 (by decide)).2.2 8 (by decide), (hz.2 164 (by decide)).1, (hz.2 165 (by decide)).1, (hz.2 166 (by decide)).1, (hz.2 167 (by decide)).1, (hz.2 168 (by decide)).1, (hz.2 169 (by decide)).1, (hz.2 170 (by decide)).1, (hz.2 171 (by decide)).1, (hz.2 164 (by decide)).2.1 (by decide), (hz.2 165 (by decide)).2.1 (by decide), (hz.2 166 (by decide)).2.1 (by decide), (hz.2 167 (by decide)).2.1 (by decide), (hz.2 168 (by decide)).2.1 (by decide), (hz.2 169 (by decide)).2.1 (by decide), (hz.2 170 (by decide)).2.1 (by decide), (hz.2 171 (by decide)).2.1 (by decide)⟩
theorem sc_172 {z : xZ} (hz : Lay z) : Sc z 172 := ⟨(hz.2 172 (by decide)).1, (hz.2 172 (by decide)).2.2 1 (by decide), (hz.2 172 (by decide)).2.2 2 (by decide), (hz.2 172 (by decide)).2.2 3 (by decide), (hz.2 172 (by decide)).2.2 4 (by decide), (hz.2 172 (by decide)).2.2 5 (by decide), (hz.2 172 (by decide)).2.2 6 (by decide), (hz.2 172 (by decide)).2.2 7 (by decide), (hz.2 172 (by decide)).2.2 8 (by decide), (hz.2 173 (by decide)).1, (hz.2 174 (by decide)).1, (hz.2 175 (by decide)).1, (hz.2 176 (by decide)).1, (hz.2 177 (by decide)).1, (hz.2 178 (by decide)).1, (hz.2 179 (by decide)).1, (hz.2 180 (by decide)).1, (hz.2 173 (by decide)).2.1 (by decide), (hz.2 174 (by decide)).2.1 (by decide), (hz.2 175 (by decide)).2.1 (by decide), (hz.2 176 (by decide)).2.1 (by decide), (hz.2 177 (by decide)).2.1 (by decide), (hz.2 178 (by decide)).2.1 (by decide), (hz.2 179 (by decide)).2.1 (by decide), (hz.2 180 (by decide)).2.1 (by decide)⟩
theorem sc_181 {z : xZ} (hz : Lay z) : Sc z 181 := ⟨(hz.2 181 (by decide)).1, (hz.2 181 (by decide)).2.2 1 (by decide), (hz.2 181 (by decide)).2.2 2 (by decide), (hz.2 181 (by decide)).2.2 3 (by decide), (hz.2 181 (by decide)).2.2 4 (by decide), (hz.2 181 (by decide)).2.2 5 (by decide), (hz.2 181 (by decide)).2.2 6 (by decide), (hz.2 181 (by decide)).2.2 7 (by decide), (hz.2 181 (by decide)).2.2 8 (by decide), (hz.2 182 (by decide)).1, (hz.2 183 (by decide)).1, (hz.2 184 (by decide)).1, (hz.2 185 (by decide)).1, (hz.2 186 (by decide)).1, (hz.2 187 (by decide)).1, (hz.2 188 (by decide)).1, (hz.2 189 (by decide)).1, (hz.2 182 (by decide)).2.1 (by decide), (hz.2 183 (by decide)).2.1 (by decide), (hz.2 184 (by decide)).2.1 (by decide), (hz.2 185 (by decide)).2.1 (by decide), (hz.2 186 (by decide)).2.1 (by decide), (hz.2 187 (by decide)).2.1 (by decide), (hz.2 188 (by decide)).2.1 (by decide), (hz.2 189 (by decide)).2.1 (by decide)⟩
theorem sc_190 {z : xZ} (hz : Lay z) : Sc z 190 := ⟨(hz.2 190 (by decide)).1, (hz.2 190 (by decide)).2.2 1 (by decide), (hz.2 190 (by decide)).2.2 2 (by decide), (hz.2 190 (by decide)).2.2 3 (by decide), (hz.2 190 (by decide)).2.2 4 (by decide), (hz.2 190 (by decide)).2.2 5 (by decide), (hz.2 190 (by decide)).2.2 6 (by decide), (hz.2 190 (by decide)).2.2 7 (by decide), (hz.2 190 (by decide)).2.2 8 (by decide), (hz.2 191 (by decide)).1, (hz.2 192 (by decide)).1, (hz.2 193 (by decide)).1, (hz.2 194 (by decide)).1, (hz.2 195 (by decide)).1, (hz.2 196 (by decide)).1, (hz.2 197 (by decide)).1, (hz.2 198 (by decide)).1, (hz.2 191 (by decide)).2.1 (by decide), (hz.2 192 (by decide)).2.1 (by decide), (hz.2 193 (by decide)).2.1 (by decide), (hz.2 194 (by decide)).2.1 (by decide), (hz.2 195 (by decide)).2.1 (by decide), (hz.2 196 (by decide)).2.1 (by decide), (hz.2 197 (by decide)).2.1 (by decide), (hz.2 198 (by decide)).2.1 (by decide)⟩
theorem sc_199 {z : xZ} (hz : Lay z) : Sc z 199 := ⟨(hz.2 199 (by decide)).1, (hz.2 199 (by decide)).2.2 1 (by decide), (hz.2 199 (by decide)).2.2 2 (by decide), (hz.2 199 (by decide)).2.2 3 (by decide), (hz.2 199 (by decide)).2.2 4 (by decide), (hz.2 199 (by decide)).2.2 5 (by decide), (hz.2 199 (by decide)).2.2 6 (by decide), (hz.2 199 (by decide)).2.2 7 (by decide), (hz.2 199 (by decide)).2.2 8 (by decide), (hz.2 200 (by decide)).1, (hz.2 201 (by decide)).1, (hz.2 202 (by decide)).1, (hz.2 203 (by decide)).1, (hz.2 204 (by decide)).1, (hz.2 205 (by decide)).1, (hz.2 206 (by decide)).1, (hz.2 207 (by decide)).1, (hz.2 200 (by decide)).2.1 (by decide), (hz.2 201 (by decide)).2.1 (by decide), (hz.2 202 (by decide)).2.1 (by decide), (hz.2 203 (by decide)).2.1 (by decide), (hz.2 204 (by decide)).2.1 (by decide), (hz.2 205 (by decide)).2.1 (by decide), (hz.2 206 (by decide)).2.1 (by decide), (hz.2 207 (by decide)).2.1 (by decide)⟩
theorem sc_kept {z : xZ} (hz : Lay z) : ∀ i, i < 6 → Sc z (154 + 9 * i)
  | 0, _ => sc_154 hz
  | 1, _ => sc_163 hz
  | 2, _ => sc_172 hz
  | 3, _ => sc_181 hz
  | 4, _ => sc_190 hz
  | 5, _ => sc_199 hz
  | _ + 6, h => absurd h (by omega)
/-- a row at r, of n places -/
def Rw (z : xZ) (r n : Nat) : Prop := zh z r = 5 ∧ zr z r 0 = r + 1 ∧ zh z (r + 1) = 100 ∧ ((zl z (r + 1) : Nat) : Int) = n
theorem rw_h {z : xZ} {r n : Nat} (hr : Rw z r n) : zh z r = 5 := hr.1
theorem rw_r {z : xZ} {r n : Nat} (hr : Rw z r n) : zr z r 0 = r + 1 := hr.2.1
theorem rw_k {z : xZ} {r n : Nat} (hr : Rw z r n) : zh z (r + 1) = 100 := hr.2.2.1
theorem rw_c {z : xZ} {r n : Nat} (hr : Rw z r n) : ((zl z (r + 1) : Nat) : Int) = n := hr.2.2.2
theorem rw_51 {z : xZ} (hz : Lay z) : Rw z 51 12 := ⟨(hz.2 51 (by decide)).1, (hz.2 51 (by decide)).2.2 0 (by decide), (hz.2 52 (by decide)).1, by rw [(hz.2 52 (by decide)).2.1 (by decide)]; rfl⟩
theorem rw_53 {z : xZ} (hz : Lay z) : Rw z 53 12 := ⟨(hz.2 53 (by decide)).1, (hz.2 53 (by decide)).2.2 0 (by decide), (hz.2 54 (by decide)).1, by rw [(hz.2 54 (by decide)).2.1 (by decide)]; rfl⟩
theorem rw_55 {z : xZ} (hz : Lay z) : Rw z 55 9 := ⟨(hz.2 55 (by decide)).1, (hz.2 55 (by decide)).2.2 0 (by decide), (hz.2 56 (by decide)).1, by rw [(hz.2 56 (by decide)).2.1 (by decide)]; rfl⟩
theorem rw_57 {z : xZ} (hz : Lay z) : Rw z 57 10 := ⟨(hz.2 57 (by decide)).1, (hz.2 57 (by decide)).2.2 0 (by decide), (hz.2 58 (by decide)).1, by rw [(hz.2 58 (by decide)).2.1 (by decide)]; rfl⟩
theorem rw_104 {z : xZ} (hz : Lay z) : Rw z 104 12 := ⟨(hz.2 104 (by decide)).1, (hz.2 104 (by decide)).2.2 0 (by decide), (hz.2 105 (by decide)).1, by rw [(hz.2 105 (by decide)).2.1 (by decide)]; rfl⟩
theorem rw_106 {z : xZ} (hz : Lay z) : Rw z 106 12 := ⟨(hz.2 106 (by decide)).1, (hz.2 106 (by decide)).2.2 0 (by decide), (hz.2 107 (by decide)).1, by rw [(hz.2 107 (by decide)).2.1 (by decide)]; rfl⟩
theorem rw_108 {z : xZ} (hz : Lay z) : Rw z 108 9 := ⟨(hz.2 108 (by decide)).1, (hz.2 108 (by decide)).2.2 0 (by decide), (hz.2 109 (by decide)).1, by rw [(hz.2 109 (by decide)).2.1 (by decide)]; rfl⟩
theorem rw_110 {z : xZ} (hz : Lay z) : Rw z 110 10 := ⟨(hz.2 110 (by decide)).1, (hz.2 110 (by decide)).2.2 0 (by decide), (hz.2 111 (by decide)).1, by rw [(hz.2 111 (by decide)).2.1 (by decide)]; rfl⟩
theorem up_ap (v : xV) (a k a' k' : Nat) (x : Int) : up v a k x a' k' = if a' = a ∧ k' = k then x else v a' k' := rfl
theorem cp_ap (v : xV) (a sp b dp n a' k' : Nat) : cpV v a sp b dp n a' k' = if a' = b ∧ dp ≤ k' ∧ k' < dp + n then v a (sp + (k' - dp)) else v a' k' := rfl
theorem sto_t (t : List xv) (x : xv) : sto t 0 x = x :: t.tail := by cases t <;> rfl
theorem cp_0 (v : xV) (a sp b dp : Nat) : cpV v a sp b dp 0 = v := by
  funext a' k'
  unfold cpV
  rw [if_neg (by omega)]
theorem cp_s (v : xV) (a sp b dp n : Nat) (h : a ≠ b ∨ dp ≤ sp) : up (cpV v a sp b dp n) b (dp + n) (cpV v a sp b dp n a (sp + n)) = cpV v a sp b dp (n + 1) := by
  funext a' k'
  have e : cpV v a sp b dp n a (sp + n) = v a (sp + n) := by
    unfold cpV
    rw [if_neg (by omega)]
  rw [e]
  unfold up cpV
  by_cases h1 : a' = b
  · subst h1
    by_cases h2 : k' = dp + n
    · subst h2
      rw [if_pos ⟨rfl, rfl⟩, if_pos (by omega)]
      congr 1
      omega
    · rw [if_neg (by omega)]
      by_cases h3 : dp ≤ k' ∧ k' < dp + n
      · rw [if_pos ⟨rfl, h3⟩, if_pos (by omega)]
      · rw [if_neg (by omega), if_neg (by omega)]
  · rw [if_neg (by omega), if_neg (by omega), if_neg (by omega)]
theorem lay_nw {z : xZ} (hz : Lay z) (t n sl : Nat) : Lay (nwZ z t n sl) := by
  obtain ⟨h0, h⟩ := hz
  refine ⟨Nat.le_succ_of_le h0, fun a ha => ?_⟩
  have hne : a ≠ z.1 := by unfold zn at h0; omega
  obtain ⟨h1, h2, h3⟩ := h a ha
  unfold zh zl zr nwZ
  dsimp only
  rw [if_neg hne, if_neg hne]
  refine ⟨h1, h2, fun k hk => ?_⟩
  rw [if_neg hne]
  exact h3 k hk
theorem lay_upW {z : xZ} (hz : Lay z) (a k : Nat) (x : Int64) : Lay (upW z a k x) := hz
