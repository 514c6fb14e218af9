/-! ===== where the image lies (class) ===== -/
theorem hh_71 {z : xZ} (hz : Lay z) : zh z 71 = 6 := (hz.2 71 (by decide)).1
theorem hr_71_1 {z : xZ} (hz : Lay z) : zr z 71 1 = 72 := (hz.2 71 (by decide)).2.2 1 (by decide)
theorem hr_71_2 {z : xZ} (hz : Lay z) : zr z 71 2 = 73 := (hz.2 71 (by decide)).2.2 2 (by decide)
theorem hr_71_3 {z : xZ} (hz : Lay z) : zr z 71 3 = 74 := (hz.2 71 (by decide)).2.2 3 (by decide)
theorem hr_71_4 {z : xZ} (hz : Lay z) : zr z 71 4 = 75 := (hz.2 71 (by decide)).2.2 4 (by decide)
theorem hr_71_5 {z : xZ} (hz : Lay z) : zr z 71 5 = 76 := (hz.2 71 (by decide)).2.2 5 (by decide)
theorem hr_71_6 {z : xZ} (hz : Lay z) : zr z 71 6 = 77 := (hz.2 71 (by decide)).2.2 6 (by decide)
theorem hr_71_7 {z : xZ} (hz : Lay z) : zr z 71 7 = 78 := (hz.2 71 (by decide)).2.2 7 (by decide)
theorem hr_71_8 {z : xZ} (hz : Lay z) : zr z 71 8 = 79 := (hz.2 71 (by decide)).2.2 8 (by decide)
theorem hh_72 {z : xZ} (hz : Lay z) : zh z 72 = 100 := (hz.2 72 (by decide)).1
theorem hc_72 {z : xZ} (hz : Lay z) : ((zl z 72 : Nat) : Int) = 64 := by rw [(hz.2 72 (by decide)).2.1 (by decide)]; rfl
theorem hh_73 {z : xZ} (hz : Lay z) : zh z 73 = 100 := (hz.2 73 (by decide)).1
theorem hc_73 {z : xZ} (hz : Lay z) : ((zl z 73 : Nat) : Int) = 64 := by rw [(hz.2 73 (by decide)).2.1 (by decide)]; rfl
theorem hh_74 {z : xZ} (hz : Lay z) : zh z 74 = 100 := (hz.2 74 (by decide)).1
theorem hc_74 {z : xZ} (hz : Lay z) : ((zl z 74 : Nat) : Int) = 64 := by rw [(hz.2 74 (by decide)).2.1 (by decide)]; rfl
theorem hh_75 {z : xZ} (hz : Lay z) : zh z 75 = 100 := (hz.2 75 (by decide)).1
theorem hc_75 {z : xZ} (hz : Lay z) : ((zl z 75 : Nat) : Int) = 10 := by rw [(hz.2 75 (by decide)).2.1 (by decide)]; rfl
theorem hh_76 {z : xZ} (hz : Lay z) : zh z 76 = 100 := (hz.2 76 (by decide)).1
theorem hc_76 {z : xZ} (hz : Lay z) : ((zl z 76 : Nat) : Int) = 10 := by rw [(hz.2 76 (by decide)).2.1 (by decide)]; rfl
theorem hh_77 {z : xZ} (hz : Lay z) : zh z 77 = 100 := (hz.2 77 (by decide)).1
theorem hc_77 {z : xZ} (hz : Lay z) : ((zl z 77 : Nat) : Int) = 10 := by rw [(hz.2 77 (by decide)).2.1 (by decide)]; rfl
theorem hh_78 {z : xZ} (hz : Lay z) : zh z 78 = 100 := (hz.2 78 (by decide)).1
theorem hc_78 {z : xZ} (hz : Lay z) : ((zl z 78 : Nat) : Int) = 10 := by rw [(hz.2 78 (by decide)).2.1 (by decide)]; rfl
theorem hh_79 {z : xZ} (hz : Lay z) : zh z 79 = 100 := (hz.2 79 (by decide)).1
theorem hc_79 {z : xZ} (hz : Lay z) : ((zl z 79 : Nat) : Int) = 10 := by rw [(hz.2 79 (by decide)).2.1 (by decide)]; rfl
theorem hh_80 {z : xZ} (hz : Lay z) : zh z 80 = 2 := (hz.2 80 (by decide)).1
theorem hr_80_0 {z : xZ} (hz : Lay z) : zr z 80 0 = 81 := (hz.2 80 (by decide)).2.2 0 (by decide)
theorem hr_80_1 {z : xZ} (hz : Lay z) : zr z 80 1 = 82 := (hz.2 80 (by decide)).2.2 1 (by decide)
theorem hr_80_2 {z : xZ} (hz : Lay z) : zr z 80 2 = 83 := (hz.2 80 (by decide)).2.2 2 (by decide)
theorem hr_80_3 {z : xZ} (hz : Lay z) : zr z 80 3 = 84 := (hz.2 80 (by decide)).2.2 3 (by decide)
theorem hr_80_4 {z : xZ} (hz : Lay z) : zr z 80 4 = 85 := (hz.2 80 (by decide)).2.2 4 (by decide)
theorem hr_80_7 {z : xZ} (hz : Lay z) : zr z 80 7 = 86 := (hz.2 80 (by decide)).2.2 7 (by decide)
theorem hr_80_8 {z : xZ} (hz : Lay z) : zr z 80 8 = 87 := (hz.2 80 (by decide)).2.2 8 (by decide)
theorem hh_81 {z : xZ} (hz : Lay z) : zh z 81 = 100 := (hz.2 81 (by decide)).1
theorem hc_81 {z : xZ} (hz : Lay z) : ((zl z 81 : Nat) : Int) = 400 := by rw [(hz.2 81 (by decide)).2.1 (by decide)]; rfl
theorem hh_82 {z : xZ} (hz : Lay z) : zh z 82 = 100 := (hz.2 82 (by decide)).1
theorem hc_82 {z : xZ} (hz : Lay z) : ((zl z 82 : Nat) : Int) = 16 := by rw [(hz.2 82 (by decide)).2.1 (by decide)]; rfl
theorem hh_83 {z : xZ} (hz : Lay z) : zh z 83 = 100 := (hz.2 83 (by decide)).1
theorem hc_83 {z : xZ} (hz : Lay z) : ((zl z 83 : Nat) : Int) = 16 := by rw [(hz.2 83 (by decide)).2.1 (by decide)]; rfl
theorem hh_84 {z : xZ} (hz : Lay z) : zh z 84 = 100 := (hz.2 84 (by decide)).1
theorem hc_84 {z : xZ} (hz : Lay z) : ((zl z 84 : Nat) : Int) = 16 := by rw [(hz.2 84 (by decide)).2.1 (by decide)]; rfl
theorem hh_85 {z : xZ} (hz : Lay z) : zh z 85 = 100 := (hz.2 85 (by decide)).1
theorem hc_85 {z : xZ} (hz : Lay z) : ((zl z 85 : Nat) : Int) = 16 := by rw [(hz.2 85 (by decide)).2.1 (by decide)]; rfl
theorem hh_86 {z : xZ} (hz : Lay z) : zh z 86 = 100 := (hz.2 86 (by decide)).1
theorem hc_86 {z : xZ} (hz : Lay z) : ((zl z 86 : Nat) : Int) = 10 := by rw [(hz.2 86 (by decide)).2.1 (by decide)]; rfl
theorem hh_87 {z : xZ} (hz : Lay z) : zh z 87 = 100 := (hz.2 87 (by decide)).1
theorem hc_87 {z : xZ} (hz : Lay z) : ((zl z 87 : Nat) : Int) = 32 := by rw [(hz.2 87 (by decide)).2.1 (by decide)]; rfl
theorem hh_88 {z : xZ} (hz : Lay z) : zh z 88 = 3 := (hz.2 88 (by decide)).1
theorem hr_88_0 {z : xZ} (hz : Lay z) : zr z 88 0 = 89 := (hz.2 88 (by decide)).2.2 0 (by decide)
theorem hr_88_1 {z : xZ} (hz : Lay z) : zr z 88 1 = 90 := (hz.2 88 (by decide)).2.2 1 (by decide)
theorem hr_88_2 {z : xZ} (hz : Lay z) : zr z 88 2 = 91 := (hz.2 88 (by decide)).2.2 2 (by decide)
theorem hr_88_3 {z : xZ} (hz : Lay z) : zr z 88 3 = 92 := (hz.2 88 (by decide)).2.2 3 (by decide)
theorem hr_88_4 {z : xZ} (hz : Lay z) : zr z 88 4 = 93 := (hz.2 88 (by decide)).2.2 4 (by decide)
theorem hr_88_5 {z : xZ} (hz : Lay z) : zr z 88 5 = 94 := (hz.2 88 (by decide)).2.2 5 (by decide)
theorem hh_89 {z : xZ} (hz : Lay z) : zh z 89 = 100 := (hz.2 89 (by decide)).1
theorem hc_89 {z : xZ} (hz : Lay z) : ((zl z 89 : Nat) : Int) = 16 := by rw [(hz.2 89 (by decide)).2.1 (by decide)]; rfl
theorem hh_90 {z : xZ} (hz : Lay z) : zh z 90 = 100 := (hz.2 90 (by decide)).1
theorem hc_90 {z : xZ} (hz : Lay z) : ((zl z 90 : Nat) : Int) = 16 := by rw [(hz.2 90 (by decide)).2.1 (by decide)]; rfl
theorem hh_91 {z : xZ} (hz : Lay z) : zh z 91 = 100 := (hz.2 91 (by decide)).1
theorem hc_91 {z : xZ} (hz : Lay z) : ((zl z 91 : Nat) : Int) = 16 := by rw [(hz.2 91 (by decide)).2.1 (by decide)]; rfl
theorem hh_92 {z : xZ} (hz : Lay z) : zh z 92 = 100 := (hz.2 92 (by decide)).1
theorem hc_92 {z : xZ} (hz : Lay z) : ((zl z 92 : Nat) : Int) = 16 := by rw [(hz.2 92 (by decide)).2.1 (by decide)]; rfl
theorem hh_93 {z : xZ} (hz : Lay z) : zh z 93 = 100 := (hz.2 93 (by decide)).1
theorem hc_93 {z : xZ} (hz : Lay z) : ((zl z 93 : Nat) : Int) = 16 := by rw [(hz.2 93 (by decide)).2.1 (by decide)]; rfl
theorem hh_94 {z : xZ} (hz : Lay z) : zh z 94 = 100 := (hz.2 94 (by decide)).1
theorem hc_94 {z : xZ} (hz : Lay z) : ((zl z 94 : Nat) : Int) = 16 := by rw [(hz.2 94 (by decide)).2.1 (by decide)]; rfl
theorem hh_95 {z : xZ} (hz : Lay z) : zh z 95 = 3 := (hz.2 95 (by decide)).1
theorem hr_95_0 {z : xZ} (hz : Lay z) : zr z 95 0 = 96 := (hz.2 95 (by decide)).2.2 0 (by decide)
theorem hr_95_1 {z : xZ} (hz : Lay z) : zr z 95 1 = 97 := (hz.2 95 (by decide)).2.2 1 (by decide)
theorem hr_95_2 {z : xZ} (hz : Lay z) : zr z 95 2 = 98 := (hz.2 95 (by decide)).2.2 2 (by decide)
theorem hr_95_3 {z : xZ} (hz : Lay z) : zr z 95 3 = 99 := (hz.2 95 (by decide)).2.2 3 (by decide)
theorem hr_95_4 {z : xZ} (hz : Lay z) : zr z 95 4 = 100 := (hz.2 95 (by decide)).2.2 4 (by decide)
theorem hr_95_5 {z : xZ} (hz : Lay z) : zr z 95 5 = 101 := (hz.2 95 (by decide)).2.2 5 (by decide)
theorem hh_96 {z : xZ} (hz : Lay z) : zh z 96 = 100 := (hz.2 96 (by decide)).1
theorem hc_96 {z : xZ} (hz : Lay z) : ((zl z 96 : Nat) : Int) = 16 := by rw [(hz.2 96 (by decide)).2.1 (by decide)]; rfl
theorem hh_97 {z : xZ} (hz : Lay z) : zh z 97 = 100 := (hz.2 97 (by decide)).1
theorem hc_97 {z : xZ} (hz : Lay z) : ((zl z 97 : Nat) : Int) = 16 := by rw [(hz.2 97 (by decide)).2.1 (by decide)]; rfl
theorem hh_98 {z : xZ} (hz : Lay z) : zh z 98 = 100 := (hz.2 98 (by decide)).1
theorem hc_98 {z : xZ} (hz : Lay z) : ((zl z 98 : Nat) : Int) = 16 := by rw [(hz.2 98 (by decide)).2.1 (by decide)]; rfl
theorem hh_99 {z : xZ} (hz : Lay z) : zh z 99 = 100 := (hz.2 99 (by decide)).1
theorem hc_99 {z : xZ} (hz : Lay z) : ((zl z 99 : Nat) : Int) = 16 := by rw [(hz.2 99 (by decide)).2.1 (by decide)]; rfl
theorem hh_100 {z : xZ} (hz : Lay z) : zh z 100 = 100 := (hz.2 100 (by decide)).1
theorem hc_100 {z : xZ} (hz : Lay z) : ((zl z 100 : Nat) : Int) = 16 := by rw [(hz.2 100 (by decide)).2.1 (by decide)]; rfl
theorem hh_101 {z : xZ} (hz : Lay z) : zh z 101 = 100 := (hz.2 101 (by decide)).1
theorem hc_101 {z : xZ} (hz : Lay z) : ((zl z 101 : Nat) : Int) = 16 := by rw [(hz.2 101 (by decide)).2.1 (by decide)]; rfl
theorem hh_102 {z : xZ} (hz : Lay z) : zh z 102 = 4 := (hz.2 102 (by decide)).1
theorem hr_102_0 {z : xZ} (hz : Lay z) : zr z 102 0 = 103 := (hz.2 102 (by decide)).2.2 0 (by decide)
theorem hr_102_1 {z : xZ} (hz : Lay z) : zr z 102 1 = 104 := (hz.2 102 (by decide)).2.2 1 (by decide)
theorem hr_102_2 {z : xZ} (hz : Lay z) : zr z 102 2 = 106 := (hz.2 102 (by decide)).2.2 2 (by decide)
theorem hr_102_3 {z : xZ} (hz : Lay z) : zr z 102 3 = 108 := (hz.2 102 (by decide)).2.2 3 (by decide)
theorem hr_102_4 {z : xZ} (hz : Lay z) : zr z 102 4 = 110 := (hz.2 102 (by decide)).2.2 4 (by decide)
theorem hr_102_5 {z : xZ} (hz : Lay z) : zr z 102 5 = 112 := (hz.2 102 (by decide)).2.2 5 (by decide)
theorem hh_103 {z : xZ} (hz : Lay z) : zh z 103 = 100 := (hz.2 103 (by decide)).1
theorem hc_103 {z : xZ} (hz : Lay z) : ((zl z 103 : Nat) : Int) = 8 := by rw [(hz.2 103 (by decide)).2.1 (by decide)]; rfl
theorem hh_104 {z : xZ} (hz : Lay z) : zh z 104 = 5 := (hz.2 104 (by decide)).1
theorem hr_104_0 {z : xZ} (hz : Lay z) : zr z 104 0 = 105 := (hz.2 104 (by decide)).2.2 0 (by decide)
theorem hh_105 {z : xZ} (hz : Lay z) : zh z 105 = 100 := (hz.2 105 (by decide)).1
theorem hc_105 {z : xZ} (hz : Lay z) : ((zl z 105 : Nat) : Int) = 12 := by rw [(hz.2 105 (by decide)).2.1 (by decide)]; rfl
theorem hh_106 {z : xZ} (hz : Lay z) : zh z 106 = 5 := (hz.2 106 (by decide)).1
theorem hr_106_0 {z : xZ} (hz : Lay z) : zr z 106 0 = 107 := (hz.2 106 (by decide)).2.2 0 (by decide)
theorem hh_107 {z : xZ} (hz : Lay z) : zh z 107 = 100 := (hz.2 107 (by decide)).1
theorem hc_107 {z : xZ} (hz : Lay z) : ((zl z 107 : Nat) : Int) = 12 := by rw [(hz.2 107 (by decide)).2.1 (by decide)]; rfl
theorem hh_108 {z : xZ} (hz : Lay z) : zh z 108 = 5 := (hz.2 108 (by decide)).1
theorem hr_108_0 {z : xZ} (hz : Lay z) : zr z 108 0 = 109 := (hz.2 108 (by decide)).2.2 0 (by decide)
theorem hh_109 {z : xZ} (hz : Lay z) : zh z 109 = 100 := (hz.2 109 (by decide)).1
theorem hc_109 {z : xZ} (hz : Lay z) : ((zl z 109 : Nat) : Int) = 9 := by rw [(hz.2 109 (by decide)).2.1 (by decide)]; rfl
theorem hh_110 {z : xZ} (hz : Lay z) : zh z 110 = 5 := (hz.2 110 (by decide)).1
theorem hr_110_0 {z : xZ} (hz : Lay z) : zr z 110 0 = 111 := (hz.2 110 (by decide)).2.2 0 (by decide)
theorem hh_111 {z : xZ} (hz : Lay z) : zh z 111 = 100 := (hz.2 111 (by decide)).1
theorem hc_111 {z : xZ} (hz : Lay z) : ((zl z 111 : Nat) : Int) = 10 := by rw [(hz.2 111 (by decide)).2.1 (by decide)]; rfl
theorem hh_112 {z : xZ} (hz : Lay z) : zh z 112 = 7 := (hz.2 112 (by decide)).1
theorem hr_112_0 {z : xZ} (hz : Lay z) : zr z 112 0 = 113 := (hz.2 112 (by decide)).2.2 0 (by decide)
theorem hh_113 {z : xZ} (hz : Lay z) : zh z 113 = 105 := (hz.2 113 (by decide)).1
theorem hc_113 {z : xZ} (hz : Lay z) : ((zl z 113 : Nat) : Int) = 8 := by rw [(hz.2 113 (by decide)).2.1 (by decide)]; rfl
theorem hr_113_0 {z : xZ} (hz : Lay z) : zr z 113 0 = 114 := (hz.2 113 (by decide)).2.2 0 (by decide)
theorem hr_113_1 {z : xZ} (hz : Lay z) : zr z 113 1 = 115 := (hz.2 113 (by decide)).2.2 1 (by decide)
theorem hr_113_2 {z : xZ} (hz : Lay z) : zr z 113 2 = 116 := (hz.2 113 (by decide)).2.2 2 (by decide)
theorem hr_113_3 {z : xZ} (hz : Lay z) : zr z 113 3 = 117 := (hz.2 113 (by decide)).2.2 3 (by decide)
theorem hr_113_4 {z : xZ} (hz : Lay z) : zr z 113 4 = 118 := (hz.2 113 (by decide)).2.2 4 (by decide)
theorem hr_113_5 {z : xZ} (hz : Lay z) : zr z 113 5 = 119 := (hz.2 113 (by decide)).2.2 5 (by decide)
theorem hr_113_6 {z : xZ} (hz : Lay z) : zr z 113 6 = 120 := (hz.2 113 (by decide)).2.2 6 (by decide)
theorem hr_113_7 {z : xZ} (hz : Lay z) : zr z 113 7 = 121 := (hz.2 113 (by decide)).2.2 7 (by decide)
theorem hh_114 {z : xZ} (hz : Lay z) : zh z 114 = 100 := (hz.2 114 (by decide)).1
theorem hc_114 {z : xZ} (hz : Lay z) : ((zl z 114 : Nat) : Int) = 4 := by rw [(hz.2 114 (by decide)).2.1 (by decide)]; rfl
theorem hh_115 {z : xZ} (hz : Lay z) : zh z 115 = 100 := (hz.2 115 (by decide)).1
theorem hc_115 {z : xZ} (hz : Lay z) : ((zl z 115 : Nat) : Int) = 4 := by rw [(hz.2 115 (by decide)).2.1 (by decide)]; rfl
theorem hh_116 {z : xZ} (hz : Lay z) : zh z 116 = 100 := (hz.2 116 (by decide)).1
theorem hc_116 {z : xZ} (hz : Lay z) : ((zl z 116 : Nat) : Int) = 4 := by rw [(hz.2 116 (by decide)).2.1 (by decide)]; rfl
theorem hh_117 {z : xZ} (hz : Lay z) : zh z 117 = 100 := (hz.2 117 (by decide)).1
theorem hc_117 {z : xZ} (hz : Lay z) : ((zl z 117 : Nat) : Int) = 4 := by rw [(hz.2 117 (by decide)).2.1 (by decide)]; rfl
theorem hh_118 {z : xZ} (hz : Lay z) : zh z 118 = 100 := (hz.2 118 (by decide)).1
theorem hc_118 {z : xZ} (hz : Lay z) : ((zl z 118 : Nat) : Int) = 4 := by rw [(hz.2 118 (by decide)).2.1 (by decide)]; rfl
theorem hh_119 {z : xZ} (hz : Lay z) : zh z 119 = 100 := (hz.2 119 (by decide)).1
theorem hc_119 {z : xZ} (hz : Lay z) : ((zl z 119 : Nat) : Int) = 4 := by rw [(hz.2 119 (by decide)).2.1 (by decide)]; rfl
theorem hh_120 {z : xZ} (hz : Lay z) : zh z 120 = 100 := (hz.2 120 (by decide)).1
theorem hc_120 {z : xZ} (hz : Lay z) : ((zl z 120 : Nat) : Int) = 4 := by rw [(hz.2 120 (by decide)).2.1 (by decide)]; rfl
theorem hh_121 {z : xZ} (hz : Lay z) : zh z 121 = 100 := (hz.2 121 (by decide)).1
theorem hc_121 {z : xZ} (hz : Lay z) : ((zl z 121 : Nat) : Int) = 4 := by rw [(hz.2 121 (by decide)).2.1 (by decide)]; rfl
theorem hh_122 {z : xZ} (hz : Lay z) : zh z 122 = 100 := (hz.2 122 (by decide)).1
theorem hc_122 {z : xZ} (hz : Lay z) : ((zl z 122 : Nat) : Int) = 600 := by rw [(hz.2 122 (by decide)).2.1 (by decide)]; rfl
