theorem ckM_c {own ml : Nat} {rt : Option FieldType} {ini : Bool} {cc : ByteArray} {pc ft : Nat} {is : List Instr} {bs : List (Nat × List Instr × Nat)} (h : ckB own ml rt ini cc pc is ft = true) (k : ckM own ml rt ini cc bs = true) : ckM own ml rt ini cc ((pc, is, ft) :: bs) = true := by
  unfold ckM at k ⊢
  rw [List.all_cons, Bool.and_eq_true]
  exact ⟨h, k⟩
set_option maxRecDepth 100000 in
theorem ck_0_0 : ckB 13 4 (some .boolean) false code 0 [.new 13, .dup, .invokeinterface 1 2, .astore 1, .new 1349, .dup, .invokeinterface 177 2, .astore 2, .iconst 0, .istore 3] 18 = true := by decide +kernel
set_option maxRecDepth 100000 in
theorem ck_0_18 : ckB 13 4 (some .boolean) false code 18 [.iload 3, .aload 0, .arraylength, .iconst 6, .isub, .if_icmp .gt 1517, .aload 0, .iload 3, .iaload, .iconst 63, .iand, .lookupswitch 1511 #[(0, 212), (1, 235), (2, 278), (3, 321), (4, 354), (5, 377), (6, 440), (7, 463), (8, 486), (9, 509), (10, 552), (11, 585), (12, 618), (13, 651), (14, 694), (15, 717), (16, 740), (17, 763), (18, 796), (19, 829), (20, 852), (21, 885), (22, 928), (23, 951), (24, 994), (25, 1047), (26, 1070), (27, 1093), (28, 1116), (29, 1139), (30, 1182), (31, 1205), (32, 1248), (33, 1301), (34, 1334), (35, 1367), (36, 1390), (37, 1413), (38, 1436), (39, 1449), (40, 1488)]] 0 = true := by decide +kernel
set_option maxRecDepth 100000 in
theorem ck_0_212 : ckB 13 4 (some .boolean) false code 212 [.aload 1, .aload 0, .iload 3, .iconst 1, .iadd, .iaload, .invokeinterface 11 5, .aload 2, .aload 0, .iload 3, .iconst 1, .iadd, .iaload, .invokeinterface 179 5, .if_icmp .eq 1511, .iconst 0, .freturn] 0 = true := by decide +kernel
set_option maxRecDepth 100000 in
theorem ck_0_235 : ckB 13 4 (some .boolean) false code 235 [.aload 1, .aload 0, .iload 3, .iconst 1, .iadd, .iaload, .aload 0, .iload 3, .iconst 2, .iadd, .iaload, .aload 0, .iload 3, .iconst 3, .iadd, .iaload, .invokeinterface 13 9, .aload 2, .aload 0, .iload 3, .iconst 1, .iadd, .iaload, .aload 0, .iload 3, .iconst 2, .iadd, .iaload, .aload 0, .iload 3, .iconst 3, .iadd, .iaload, .invokeinterface 180 9, .if_icmp .eq 1511, .iconst 0, .freturn] 0 = true := by decide +kernel
set_option maxRecDepth 100000 in
theorem ck_0_278 : ckB 13 4 (some .boolean) false code 278 [.aload 1, .aload 0, .iload 3, .iconst 1, .iadd, .iaload, .aload 0, .iload 3, .iconst 2, .iadd, .iaload, .aload 0, .iload 3, .iconst 3, .iadd, .iaload, .invokeinterface 16 9, .aload 2, .aload 0, .iload 3, .iconst 1, .iadd, .iaload, .aload 0, .iload 3, .iconst 2, .iadd, .iaload, .aload 0, .iload 3, .iconst 3, .iadd, .iaload, .invokeinterface 183 9, .if_icmp .eq 1511, .iconst 0, .freturn] 0 = true := by decide +kernel
set_option maxRecDepth 100000 in
theorem ck_0_321 : ckB 13 4 (some .boolean) false code 321 [.aload 1, .aload 0, .iload 3, .iconst 1, .iadd, .iaload, .aload 0, .iload 3, .iconst 2, .iadd, .iaload, .invokeinterface 18 7, .aload 2, .aload 0, .iload 3, .iconst 1, .iadd, .iaload, .aload 0, .iload 3, .iconst 2, .iadd, .iaload, .invokeinterface 224 7, .if_icmp .eq 1511, .iconst 0, .freturn] 0 = true := by decide +kernel
set_option maxRecDepth 100000 in
theorem ck_0_354 : ckB 13 4 (some .boolean) false code 354 [.aload 1, .aload 0, .iload 3, .iconst 1, .iadd, .iaload, .invokeinterface 34 5, .aload 2, .aload 0, .iload 3, .iconst 1, .iadd, .iaload, .invokeinterface 245 5, .if_icmp .eq 1511, .iconst 0, .freturn] 0 = true := by decide +kernel
set_option maxRecDepth 100000 in
theorem ck_0_377 : ckB 13 4 (some .boolean) false code 377 [.aload 1, .aload 0, .iload 3, .iconst 1, .iadd, .iaload, .aload 0, .iload 3, .iconst 2, .iadd, .iaload, .aload 0, .iload 3, .iconst 3, .iadd, .iaload, .aload 0, .iload 3, .iconst 4, .iadd, .iaload, .aload 0, .iload 3, .iconst 5, .iadd, .iaload, .invokeinterface 37 13, .aload 2, .aload 0, .iload 3, .iconst 1, .iadd, .iaload, .aload 0, .iload 3, .iconst 2, .iadd, .iaload, .aload 0, .iload 3] 419 = true := by decide +kernel
set_option maxRecDepth 100000 in
theorem ck_0_419 : ckB 13 4 (some .boolean) false code 419 [.iconst 3, .iadd, .iaload, .aload 0, .iload 3, .iconst 4, .iadd, .iaload, .aload 0, .iload 3, .iconst 5, .iadd, .iaload, .invokeinterface 185 13, .if_icmp .eq 1511, .iconst 0, .freturn] 0 = true := by decide +kernel
set_option maxRecDepth 100000 in
theorem ck_0_440 : ckB 13 4 (some .boolean) false code 440 [.aload 1, .aload 0, .iload 3, .iconst 1, .iadd, .iaload, .invokeinterface 39 5, .aload 2, .aload 0, .iload 3, .iconst 1, .iadd, .iaload, .invokeinterface 187 5, .if_icmp .eq 1511, .iconst 0, .freturn] 0 = true := by decide +kernel
set_option maxRecDepth 100000 in
theorem ck_0_463 : ckB 13 4 (some .boolean) false code 463 [.aload 1, .aload 0, .iload 3, .iconst 1, .iadd, .iaload, .invokeinterface 40 5, .aload 2, .aload 0, .iload 3, .iconst 1, .iadd, .iaload, .invokeinterface 188 5, .if_icmp .eq 1511, .iconst 0, .freturn] 0 = true := by decide +kernel
set_option maxRecDepth 100000 in
theorem ck_0_486 : ckB 13 4 (some .boolean) false code 486 [.aload 1, .aload 0, .iload 3, .iconst 1, .iadd, .iaload, .invokeinterface 88 5, .aload 2, .aload 0, .iload 3, .iconst 1, .iadd, .iaload, .invokeinterface 223 5, .if_icmp .eq 1511, .iconst 0, .freturn] 0 = true := by decide +kernel
set_option maxRecDepth 100000 in
theorem ck_0_509 : ckB 13 4 (some .boolean) false code 509 [.aload 1, .aload 0, .iload 3, .iconst 1, .iadd, .iaload, .aload 0, .iload 3, .iconst 2, .iadd, .iaload, .aload 0, .iload 3, .iconst 3, .iadd, .iaload, .invokeinterface 89 9, .aload 2, .aload 0, .iload 3, .iconst 1, .iadd, .iaload, .aload 0, .iload 3, .iconst 2, .iadd, .iaload, .aload 0, .iload 3, .iconst 3, .iadd, .iaload, .invokeinterface 250 9, .if_icmp .eq 1511, .iconst 0, .freturn] 0 = true := by decide +kernel
set_option maxRecDepth 100000 in
theorem ck_0_552 : ckB 13 4 (some .boolean) false code 552 [.aload 1, .aload 0, .iload 3, .iconst 1, .iadd, .iaload, .aload 0, .iload 3, .iconst 2, .iadd, .iaload, .invokeinterface 92 7, .aload 2, .aload 0, .iload 3, .iconst 1, .iadd, .iaload, .aload 0, .iload 3, .iconst 2, .iadd, .iaload, .invokeinterface 252 7, .if_icmp .eq 1511, .iconst 0, .freturn] 0 = true := by decide +kernel
set_option maxRecDepth 100000 in
theorem ck_0_585 : ckB 13 4 (some .boolean) false code 585 [.aload 1, .aload 0, .iload 3, .iconst 1, .iadd, .iaload, .aload 0, .iload 3, .iconst 2, .iadd, .iaload, .invokeinterface 93 7, .aload 2, .aload 0, .iload 3, .iconst 1, .iadd, .iaload, .aload 0, .iload 3, .iconst 2, .iadd, .iaload, .invokeinterface 253 7, .if_icmp .eq 1511, .iconst 0, .freturn] 0 = true := by decide +kernel
set_option maxRecDepth 100000 in
theorem ck_0_618 : ckB 13 4 (some .boolean) false code 618 [.aload 1, .aload 0, .iload 3, .iconst 1, .iadd, .iaload, .aload 0, .iload 3, .iconst 2, .iadd, .iaload, .invokeinterface 94 7, .aload 2, .aload 0, .iload 3, .iconst 1, .iadd, .iaload, .aload 0, .iload 3, .iconst 2, .iadd, .iaload, .invokeinterface 254 7, .if_icmp .eq 1511, .iconst 0, .freturn] 0 = true := by decide +kernel
set_option maxRecDepth 100000 in
theorem ck_0_651 : ckB 13 4 (some .boolean) false code 651 [.aload 1, .aload 0, .iload 3, .iconst 1, .iadd, .iaload, .aload 0, .iload 3, .iconst 2, .iadd, .iaload, .aload 0, .iload 3, .iconst 3, .iadd, .iaload, .invokeinterface 97 9, .aload 2, .aload 0, .iload 3, .iconst 1, .iadd, .iaload, .aload 0, .iload 3, .iconst 2, .iadd, .iaload, .aload 0, .iload 3, .iconst 3, .iadd, .iaload, .invokeinterface 259 9, .if_icmp .eq 1511, .iconst 0, .freturn] 0 = true := by decide +kernel
set_option maxRecDepth 100000 in
theorem ck_0_694 : ckB 13 4 (some .boolean) false code 694 [.aload 1, .aload 0, .iload 3, .iconst 1, .iadd, .iaload, .invokeinterface 98 5, .aload 2, .aload 0, .iload 3, .iconst 1, .iadd, .iaload, .invokeinterface 260 5, .if_icmp .eq 1511, .iconst 0, .freturn] 0 = true := by decide +kernel
set_option maxRecDepth 100000 in
theorem ck_0_717 : ckB 13 4 (some .boolean) false code 717 [.aload 1, .aload 0, .iload 3, .iconst 1, .iadd, .iaload, .invokeinterface 100 5, .aload 2, .aload 0, .iload 3, .iconst 1, .iadd, .iaload, .invokeinterface 261 5, .if_icmp .eq 1511, .iconst 0, .freturn] 0 = true := by decide +kernel
set_option maxRecDepth 100000 in
theorem ck_0_740 : ckB 13 4 (some .boolean) false code 740 [.aload 1, .aload 0, .iload 3, .iconst 1, .iadd, .iaload, .invokeinterface 103 5, .aload 2, .aload 0, .iload 3, .iconst 1, .iadd, .iaload, .invokeinterface 264 5, .if_icmp .eq 1511, .iconst 0, .freturn] 0 = true := by decide +kernel
set_option maxRecDepth 100000 in
theorem ck_0_763 : ckB 13 4 (some .boolean) false code 763 [.aload 1, .aload 0, .iload 3, .iconst 1, .iadd, .iaload, .aload 0, .iload 3, .iconst 2, .iadd, .iaload, .invokeinterface 107 7, .aload 2, .aload 0, .iload 3, .iconst 1, .iadd, .iaload, .aload 0, .iload 3, .iconst 2, .iadd, .iaload, .invokeinterface 268 7, .if_icmp .eq 1511, .iconst 0, .freturn] 0 = true := by decide +kernel
set_option maxRecDepth 100000 in
theorem ck_0_796 : ckB 13 4 (some .boolean) false code 796 [.aload 1, .aload 0, .iload 3, .iconst 1, .iadd, .iaload, .aload 0, .iload 3, .iconst 2, .iadd, .iaload, .invokeinterface 108 7, .aload 2, .aload 0, .iload 3, .iconst 1, .iadd, .iaload, .aload 0, .iload 3, .iconst 2, .iadd, .iaload, .invokeinterface 269 7, .if_icmp .eq 1511, .iconst 0, .freturn] 0 = true := by decide +kernel
set_option maxRecDepth 100000 in
theorem ck_0_829 : ckB 13 4 (some .boolean) false code 829 [.aload 1, .aload 0, .iload 3, .iconst 1, .iadd, .iaload, .invokeinterface 111 5, .aload 2, .aload 0, .iload 3, .iconst 1, .iadd, .iaload, .invokeinterface 272 5, .if_icmp .eq 1511, .iconst 0, .freturn] 0 = true := by decide +kernel
set_option maxRecDepth 100000 in
theorem ck_0_852 : ckB 13 4 (some .boolean) false code 852 [.aload 1, .aload 0, .iload 3, .iconst 1, .iadd, .iaload, .aload 0, .iload 3, .iconst 2, .iadd, .iaload, .invokeinterface 113 7, .aload 2, .aload 0, .iload 3, .iconst 1, .iadd, .iaload, .aload 0, .iload 3, .iconst 2, .iadd, .iaload, .invokeinterface 273 7, .if_icmp .eq 1511, .iconst 0, .freturn] 0 = true := by decide +kernel
set_option maxRecDepth 100000 in
theorem ck_0_885 : ckB 13 4 (some .boolean) false code 885 [.aload 1, .aload 0, .iload 3, .iconst 1, .iadd, .iaload, .aload 0, .iload 3, .iconst 2, .iadd, .iaload, .aload 0, .iload 3, .iconst 3, .iadd, .iaload, .invokeinterface 120 9, .aload 2, .aload 0, .iload 3, .iconst 1, .iadd, .iaload, .aload 0, .iload 3, .iconst 2, .iadd, .iaload, .aload 0, .iload 3, .iconst 3, .iadd, .iaload, .invokeinterface 275 9, .if_icmp .eq 1511, .iconst 0, .freturn] 0 = true := by decide +kernel
set_option maxRecDepth 100000 in
theorem ck_0_928 : ckB 13 4 (some .boolean) false code 928 [.aload 1, .aload 0, .iload 3, .iconst 1, .iadd, .iaload, .invokeinterface 124 5, .aload 2, .aload 0, .iload 3, .iconst 1, .iadd, .iaload, .invokeinterface 276 5, .if_icmp .eq 1511, .iconst 0, .freturn] 0 = true := by decide +kernel
set_option maxRecDepth 100000 in
theorem ck_0_951 : ckB 13 4 (some .boolean) false code 951 [.aload 1, .aload 0, .iload 3, .iconst 1, .iadd, .iaload, .aload 0, .iload 3, .iconst 2, .iadd, .iaload, .aload 0, .iload 3, .iconst 3, .iadd, .iaload, .invokeinterface 130 9, .aload 2, .aload 0, .iload 3, .iconst 1, .iadd, .iaload, .aload 0, .iload 3, .iconst 2, .iadd, .iaload, .aload 0, .iload 3, .iconst 3, .iadd, .iaload, .invokeinterface 282 9, .if_icmp .eq 1511, .iconst 0, .freturn] 0 = true := by decide +kernel
set_option maxRecDepth 100000 in
theorem ck_0_994 : ckB 13 4 (some .boolean) false code 994 [.aload 1, .aload 0, .iload 3, .iconst 1, .iadd, .iaload, .aload 0, .iload 3, .iconst 2, .iadd, .iaload, .aload 0, .iload 3, .iconst 3, .iadd, .iaload, .aload 0, .iload 3, .iconst 4, .iadd, .iaload, .invokeinterface 132 11, .aload 2, .aload 0, .iload 3, .iconst 1, .iadd, .iaload, .aload 0, .iload 3, .iconst 2, .iadd, .iaload, .aload 0, .iload 3, .iconst 3, .iadd, .iaload, .aload 0, .iload 3] 1036 = true := by decide +kernel
set_option maxRecDepth 100000 in
theorem ck_0_1036 : ckB 13 4 (some .boolean) false code 1036 [.iconst 4, .iadd, .iaload, .invokeinterface 285 11, .if_icmp .eq 1511, .iconst 0, .freturn] 0 = true := by decide +kernel
set_option maxRecDepth 100000 in
theorem ck_0_1047 : ckB 13 4 (some .boolean) false code 1047 [.aload 1, .aload 0, .iload 3, .iconst 1, .iadd, .iaload, .invokeinterface 135 5, .aload 2, .aload 0, .iload 3, .iconst 1, .iadd, .iaload, .invokeinterface 286 5, .if_icmp .eq 1511, .iconst 0, .freturn] 0 = true := by decide +kernel
set_option maxRecDepth 100000 in
theorem ck_0_1070 : ckB 13 4 (some .boolean) false code 1070 [.aload 1, .aload 0, .iload 3, .iconst 1, .iadd, .iaload, .invokeinterface 136 5, .aload 2, .aload 0, .iload 3, .iconst 1, .iadd, .iaload, .invokeinterface 287 5, .if_icmp .eq 1511, .iconst 0, .freturn] 0 = true := by decide +kernel
set_option maxRecDepth 100000 in
theorem ck_0_1093 : ckB 13 4 (some .boolean) false code 1093 [.aload 1, .aload 0, .iload 3, .iconst 1, .iadd, .iaload, .invokeinterface 142 5, .aload 2, .aload 0, .iload 3, .iconst 1, .iadd, .iaload, .invokeinterface 291 5, .if_icmp .eq 1511, .iconst 0, .freturn] 0 = true := by decide +kernel
set_option maxRecDepth 100000 in
theorem ck_0_1116 : ckB 13 4 (some .boolean) false code 1116 [.aload 1, .aload 0, .iload 3, .iconst 1, .iadd, .iaload, .invokeinterface 143 5, .aload 2, .aload 0, .iload 3, .iconst 1, .iadd, .iaload, .invokeinterface 292 5, .if_icmp .eq 1511, .iconst 0, .freturn] 0 = true := by decide +kernel
set_option maxRecDepth 100000 in
theorem ck_0_1139 : ckB 13 4 (some .boolean) false code 1139 [.aload 1, .aload 0, .iload 3, .iconst 1, .iadd, .iaload, .aload 0, .iload 3, .iconst 2, .iadd, .iaload, .aload 0, .iload 3, .iconst 3, .iadd, .iaload, .invokeinterface 146 9, .aload 2, .aload 0, .iload 3, .iconst 1, .iadd, .iaload, .aload 0, .iload 3, .iconst 2, .iadd, .iaload, .aload 0, .iload 3, .iconst 3, .iadd, .iaload, .invokeinterface 294 9, .if_icmp .eq 1511, .iconst 0, .freturn] 0 = true := by decide +kernel
set_option maxRecDepth 100000 in
theorem ck_0_1182 : ckB 13 4 (some .boolean) false code 1182 [.aload 1, .aload 0, .iload 3, .iconst 1, .iadd, .iaload, .invokeinterface 148 5, .aload 2, .aload 0, .iload 3, .iconst 1, .iadd, .iaload, .invokeinterface 295 5, .if_icmp .eq 1511, .iconst 0, .freturn] 0 = true := by decide +kernel
set_option maxRecDepth 100000 in
theorem ck_0_1205 : ckB 13 4 (some .boolean) false code 1205 [.aload 1, .aload 0, .iload 3, .iconst 1, .iadd, .iaload, .aload 0, .iload 3, .iconst 2, .iadd, .iaload, .aload 0, .iload 3, .iconst 3, .iadd, .iaload, .invokeinterface 149 9, .aload 2, .aload 0, .iload 3, .iconst 1, .iadd, .iaload, .aload 0, .iload 3, .iconst 2, .iadd, .iaload, .aload 0, .iload 3, .iconst 3, .iadd, .iaload, .invokeinterface 298 9, .if_icmp .eq 1511, .iconst 0, .freturn] 0 = true := by decide +kernel
set_option maxRecDepth 100000 in
theorem ck_0_1248 : ckB 13 4 (some .boolean) false code 1248 [.aload 1, .aload 0, .iload 3, .iconst 1, .iadd, .iaload, .aload 0, .iload 3, .iconst 2, .iadd, .iaload, .aload 0, .iload 3, .iconst 3, .iadd, .iaload, .aload 0, .iload 3, .iconst 4, .iadd, .iaload, .invokeinterface 152 11, .aload 2, .aload 0, .iload 3, .iconst 1, .iadd, .iaload, .aload 0, .iload 3, .iconst 2, .iadd, .iaload, .aload 0, .iload 3, .iconst 3, .iadd, .iaload, .aload 0, .iload 3] 1290 = true := by decide +kernel
set_option maxRecDepth 100000 in
theorem ck_0_1290 : ckB 13 4 (some .boolean) false code 1290 [.iconst 4, .iadd, .iaload, .invokeinterface 296 11, .if_icmp .eq 1511, .iconst 0, .freturn] 0 = true := by decide +kernel
set_option maxRecDepth 100000 in
theorem ck_0_1301 : ckB 13 4 (some .boolean) false code 1301 [.aload 1, .aload 0, .iload 3, .iconst 1, .iadd, .iaload, .aload 0, .iload 3, .iconst 2, .iadd, .iaload, .invokeinterface 154 7, .aload 2, .aload 0, .iload 3, .iconst 1, .iadd, .iaload, .aload 0, .iload 3, .iconst 2, .iadd, .iaload, .invokeinterface 299 7, .if_icmp .eq 1511, .iconst 0, .freturn] 0 = true := by decide +kernel
set_option maxRecDepth 100000 in
theorem ck_0_1334 : ckB 13 4 (some .boolean) false code 1334 [.aload 1, .aload 0, .iload 3, .iconst 1, .iadd, .iaload, .aload 0, .iload 3, .iconst 2, .iadd, .iaload, .invokeinterface 156 7, .aload 2, .aload 0, .iload 3, .iconst 1, .iadd, .iaload, .aload 0, .iload 3, .iconst 2, .iadd, .iaload, .invokeinterface 301 7, .if_icmp .eq 1511, .iconst 0, .freturn] 0 = true := by decide +kernel
set_option maxRecDepth 100000 in
theorem ck_0_1367 : ckB 13 4 (some .boolean) false code 1367 [.aload 1, .aload 0, .iload 3, .iconst 1, .iadd, .iaload, .invokeinterface 158 5, .aload 2, .aload 0, .iload 3, .iconst 1, .iadd, .iaload, .invokeinterface 302 5, .if_icmp .eq 1511, .iconst 0, .freturn] 0 = true := by decide +kernel
set_option maxRecDepth 100000 in
theorem ck_0_1390 : ckB 13 4 (some .boolean) false code 1390 [.aload 1, .aload 0, .iload 3, .iconst 1, .iadd, .iaload, .invokeinterface 159 5, .aload 2, .aload 0, .iload 3, .iconst 1, .iadd, .iaload, .invokeinterface 303 5, .if_icmp .eq 1511, .iconst 0, .freturn] 0 = true := by decide +kernel
set_option maxRecDepth 100000 in
theorem ck_0_1413 : ckB 13 4 (some .boolean) false code 1413 [.aload 1, .aload 0, .iload 3, .iconst 1, .iadd, .iaload, .invokeinterface 162 5, .aload 2, .aload 0, .iload 3, .iconst 1, .iadd, .iaload, .invokeinterface 304 5, .if_icmp .eq 1511, .iconst 0, .freturn] 0 = true := by decide +kernel
set_option maxRecDepth 100000 in
theorem ck_0_1436 : ckB 13 4 (some .boolean) false code 1436 [.aload 1, .invokeinterface 170 3, .aload 2, .invokeinterface 178 3, .if_icmp .eq 1511, .iconst 0, .freturn] 0 = true := by decide +kernel
set_option maxRecDepth 100000 in
theorem ck_0_1449 : ckB 13 4 (some .boolean) false code 1449 [.aload 1, .aload 0, .iload 3, .iconst 1, .iadd, .iaload, .ifCond .eq 1462, .iconst 1, .goto 1463] 0 = true := by decide +kernel
set_option maxRecDepth 100000 in
theorem ck_0_1462 : ckB 13 4 (some .boolean) false code 1462 [.iconst 0] 1463 = true := by decide +kernel
set_option maxRecDepth 100000 in
theorem ck_0_1463 : ckB 13 4 (some .boolean) false code 1463 [.invokeinterface 171 5, .aload 2, .aload 0, .iload 3, .iconst 1, .iadd, .iaload, .ifCond .eq 1479, .iconst 1, .goto 1480] 0 = true := by decide +kernel
set_option maxRecDepth 100000 in
theorem ck_0_1479 : ckB 13 4 (some .boolean) false code 1479 [.iconst 0] 1480 = true := by decide +kernel
set_option maxRecDepth 100000 in
theorem ck_0_1480 : ckB 13 4 (some .boolean) false code 1480 [.invokeinterface 309 5, .if_icmp .eq 1511, .iconst 0, .freturn] 0 = true := by decide +kernel
set_option maxRecDepth 100000 in
theorem ck_0_1488 : ckB 13 4 (some .boolean) false code 1488 [.aload 1, .aload 0, .iload 3, .iconst 1, .iadd, .iaload, .invokeinterface 176 5, .aload 2, .aload 0, .iload 3, .iconst 1, .iadd, .iaload, .invokeinterface 313 5, .if_icmp .eq 1511, .iconst 0, .freturn] 0 = true := by decide +kernel
set_option maxRecDepth 100000 in
theorem ck_0_1511 : ckB 13 4 (some .boolean) false code 1511 [.iinc 3 6, .goto 18] 0 = true := by decide +kernel
set_option maxRecDepth 100000 in
theorem ck_0_1517 : ckB 13 4 (some .boolean) false code 1517 [.iconst 1, .freturn] 0 = true := by decide +kernel
set_option maxRecDepth 100000 in
theorem ck_0 : ckM 13 4 (some .boolean) false code mb_0 = true := ckM_c ck_0_0 (ckM_c ck_0_18 (ckM_c ck_0_212 (ckM_c ck_0_235 (ckM_c ck_0_278 (ckM_c ck_0_321 (ckM_c ck_0_354 (ckM_c ck_0_377 (ckM_c ck_0_419 (ckM_c ck_0_440 (ckM_c ck_0_463 (ckM_c ck_0_486 (ckM_c ck_0_509 (ckM_c ck_0_552 (ckM_c ck_0_585 (ckM_c ck_0_618 (ckM_c ck_0_651 (ckM_c ck_0_694 (ckM_c ck_0_717 (ckM_c ck_0_740 (ckM_c ck_0_763 (ckM_c ck_0_796 (ckM_c ck_0_829 (ckM_c ck_0_852 (ckM_c ck_0_885 (ckM_c ck_0_928 (ckM_c ck_0_951 (ckM_c ck_0_994 (ckM_c ck_0_1036 (ckM_c ck_0_1047 (ckM_c ck_0_1070 (ckM_c ck_0_1093 (ckM_c ck_0_1116 (ckM_c ck_0_1139 (ckM_c ck_0_1182 (ckM_c ck_0_1205 (ckM_c ck_0_1248 (ckM_c ck_0_1290 (ckM_c ck_0_1301 (ckM_c ck_0_1334 (ckM_c ck_0_1367 (ckM_c ck_0_1390 (ckM_c ck_0_1413 (ckM_c ck_0_1436 (ckM_c ck_0_1449 (ckM_c ck_0_1462 (ckM_c ck_0_1463 (ckM_c ck_0_1479 (ckM_c ck_0_1480 (ckM_c ck_0_1488 (ckM_c ck_0_1511 (ckM_c ck_0_1517 (rfl))))))))))))))))))))))))))))))))))))))))))))))))))))
set_option maxRecDepth 100000 in
theorem ck_177_0 : ckB 10 1 none true prog_14_method_1_code 0 [.aload 0, .monitorenter, .aload 0, .iconst 247, .newarray .int, .checkcast 1281, .aload 0, .iconst 1482, .newarray .int, .checkcast 1282, .aload 0, .iconst 247, .newarray .int, .checkcast 1284, .aload 0, .iconst 10, .newarray .int, .checkcast 1287, .aload 0, .iconst 600, .newarray .int, .checkcast 1288, .aload 0, .iconst 400, .newarray .int, .checkcast 1289, .aload 0, .iconst 138, .newarray .int, .dup, .iconst 0, .iconst 32, .iastore, .dup, .iconst 1, .iconst 100, .iastore, .dup, .iconst 2, .iconst 114] 77 = true := by decide +kernel
set_option maxRecDepth 100000 in
theorem ck_177_77 : ckB 10 1 none true prog_14_method_1_code 77 [.iastore, .dup, .iconst 3, .iconst 97, .iastore, .dup, .iconst 4, .iconst 119, .iastore, .dup, .iconst 5, .iconst 115, .iastore, .dup, .iconst 6, .iconst 32, .iastore, .dup, .iconst 7, .iconst 115, .iastore, .dup, .iconst 8, .iconst 116, .iastore, .dup, .iconst 9, .iconst 111, .iastore, .dup, .iconst 10, .iconst 112, .iastore, .dup, .iconst 11, .iconst 115, .iastore, .dup, .iconst 12, .iconst 32] 134 = true := by decide +kernel
set_option maxRecDepth 100000 in
theorem ck_177_134 : ckB 10 1 none true prog_14_method_1_code 134 [.iastore, .dup, .iconst 13, .iconst 112, .iastore, .dup, .iconst 14, .iconst 97, .iastore, .dup, .iconst 15, .iconst 121, .iastore, .dup, .iconst 16, .iconst 115, .iastore, .dup, .iconst 17, .iconst 32, .iastore, .dup, .iconst 18, .iconst 119, .iastore, .dup, .iconst 19, .iconst 104, .iastore, .dup, .iconst 20, .iconst 101, .iastore, .dup, .iconst 21, .iconst 110, .iastore, .dup, .iconst 22, .iconst 32] 194 = true := by decide +kernel
set_option maxRecDepth 100000 in
theorem ck_177_194 : ckB 10 1 none true prog_14_method_1_code 194 [.iastore, .dup, .iconst 23, .iconst 111, .iastore, .dup, .iconst 24, .iconst 114, .iastore, .dup, .iconst 25, .iconst 32, .iastore, .dup, .iconst 26, .iconst 97, .iastore, .dup, .iconst 27, .iconst 110, .iastore, .dup, .iconst 28, .iconst 100, .iastore, .dup, .iconst 29, .iconst 32, .iastore, .dup, .iconst 30, .iconst 110, .iastore, .dup, .iconst 31, .iconst 111, .iastore, .dup, .iconst 32, .iconst 116] 254 = true := by decide +kernel
set_option maxRecDepth 100000 in
theorem ck_177_254 : ckB 10 1 none true prog_14_method_1_code 254 [.iastore, .dup, .iconst 33, .iconst 32, .iastore, .dup, .iconst 34, .iconst 108, .iastore, .dup, .iconst 35, .iconst 111, .iastore, .dup, .iconst 36, .iconst 115, .iastore, .dup, .iconst 37, .iconst 115, .iastore, .dup, .iconst 38, .iconst 32, .iastore, .dup, .iconst 39, .iconst 115, .iastore, .dup, .iconst 40, .iconst 111, .iastore, .dup, .iconst 41, .iconst 108, .iastore, .dup, .iconst 42, .iconst 97] 314 = true := by decide +kernel
set_option maxRecDepth 100000 in
theorem ck_177_314 : ckB 10 1 none true prog_14_method_1_code 314 [.iastore, .dup, .iconst 43, .iconst 99, .iastore, .dup, .iconst 44, .iconst 101, .iastore, .dup, .iconst 45, .iconst 32, .iastore, .dup, .iconst 46, .iconst 111, .iastore, .dup, .iconst 47, .iconst 97, .iastore, .dup, .iconst 48, .iconst 107, .iastore, .dup, .iconst 49, .iconst 32, .iastore, .dup, .iconst 50, .iconst 116, .iastore, .dup, .iconst 51, .iconst 114, .iastore, .dup, .iconst 52, .iconst 117] 374 = true := by decide +kernel
set_option maxRecDepth 100000 in
theorem ck_177_374 : ckB 10 1 none true prog_14_method_1_code 374 [.iastore, .dup, .iconst 53, .iconst 102, .iastore, .dup, .iconst 54, .iconst 102, .iastore, .dup, .iconst 55, .iconst 108, .iastore, .dup, .iconst 56, .iconst 101, .iastore, .dup, .iconst 57, .iconst 32, .iastore, .dup, .iconst 58, .iconst 100, .iastore, .dup, .iconst 59, .iconst 117, .iastore, .dup, .iconst 60, .iconst 103, .iastore, .dup, .iconst 61, .iconst 32, .iastore, .dup, .iconst 62, .iconst 120] 434 = true := by decide +kernel
set_option maxRecDepth 100000 in
theorem ck_177_434 : ckB 10 1 none true prog_14_method_1_code 434 [.iastore, .dup, .iconst 63, .iconst 32, .iastore, .dup, .iconst 64, .iconst 121, .iastore, .dup, .iconst 65, .iconst 32, .iastore, .dup, .iconst 66, .iconst 102, .iastore, .dup, .iconst 67, .iconst 111, .iastore, .dup, .iconst 68, .iconst 117, .iastore, .dup, .iconst 69, .iconst 110, .iastore, .dup, .iconst 70, .iconst 100, .iastore, .dup, .iconst 71, .iconst 32, .iastore, .dup, .iconst 72, .iconst 98] 494 = true := by decide +kernel
set_option maxRecDepth 100000 in
theorem ck_177_494 : ckB 10 1 none true prog_14_method_1_code 494 [.iastore, .dup, .iconst 73, .iconst 97, .iastore, .dup, .iconst 74, .iconst 115, .iastore, .dup, .iconst 75, .iconst 107, .iastore, .dup, .iconst 76, .iconst 101, .iastore, .dup, .iconst 77, .iconst 116, .iastore, .dup, .iconst 78, .iconst 32, .iastore, .dup, .iconst 79, .iconst 109, .iastore, .dup, .iconst 80, .iconst 111, .iastore, .dup, .iconst 81, .iconst 114, .iastore, .dup, .iconst 82, .iconst 110] 554 = true := by decide +kernel
set_option maxRecDepth 100000 in
theorem ck_177_554 : ckB 10 1 none true prog_14_method_1_code 554 [.iastore, .dup, .iconst 83, .iconst 105, .iastore, .dup, .iconst 84, .iconst 110, .iastore, .dup, .iconst 85, .iconst 103, .iastore, .dup, .iconst 86, .iconst 32, .iastore, .dup, .iconst 87, .iconst 111, .iastore, .dup, .iconst 88, .iconst 110, .iastore, .dup, .iconst 89, .iconst 32, .iastore, .dup, .iconst 90, .iconst 115, .iastore, .dup, .iconst 91, .iconst 101, .iastore, .dup, .iconst 92, .iconst 101] 614 = true := by decide +kernel
set_option maxRecDepth 100000 in
theorem ck_177_614 : ckB 10 1 none true prog_14_method_1_code 614 [.iastore, .dup, .iconst 93, .iconst 107, .iastore, .dup, .iconst 94, .iconst 101, .iastore, .dup, .iconst 95, .iconst 114, .iastore, .dup, .iconst 96, .iconst 32, .iastore, .dup, .iconst 97, .iconst 108, .iastore, .dup, .iconst 98, .iconst 101, .iastore, .dup, .iconst 99, .iconst 97, .iastore, .dup, .iconst 100, .iconst 100, .iastore, .dup, .iconst 101, .iconst 32, .iastore, .dup, .iconst 102, .iconst 99] 674 = true := by decide +kernel
set_option maxRecDepth 100000 in
theorem ck_177_674 : ckB 10 1 none true prog_14_method_1_code 674 [.iastore, .dup, .iconst 103, .iconst 111, .iastore, .dup, .iconst 104, .iconst 110, .iastore, .dup, .iconst 105, .iconst 115, .iastore, .dup, .iconst 106, .iconst 111, .iastore, .dup, .iconst 107, .iconst 108, .iastore, .dup, .iconst 108, .iconst 101, .iastore, .dup, .iconst 109, .iconst 32, .iastore, .dup, .iconst 110, .iconst 109, .iastore, .dup, .iconst 111, .iconst 111, .iastore, .dup, .iconst 112, .iconst 117] 734 = true := by decide +kernel
set_option maxRecDepth 100000 in
theorem ck_177_734 : ckB 10 1 none true prog_14_method_1_code 734 [.iastore, .dup, .iconst 113, .iconst 114, .iastore, .dup, .iconst 114, .iconst 110, .iastore, .dup, .iconst 115, .iconst 32, .iastore, .dup, .iconst 116, .iconst 115, .iastore, .dup, .iconst 117, .iconst 116, .iastore, .dup, .iconst 118, .iconst 97, .iastore, .dup, .iconst 119, .iconst 110, .iastore, .dup, .iconst 120, .iconst 100, .iastore, .dup, .iconst 121, .iconst 32, .iastore, .dup, .iconst 122, .iconst 99] 794 = true := by decide +kernel
set_option maxRecDepth 100000 in
theorem ck_177_794 : ckB 10 1 none true prog_14_method_1_code 794 [.iastore, .dup, .iconst 123, .iconst 101, .iastore, .dup, .iconst 124, .iconst 108, .iastore, .dup, .iconst 125, .iconst 108, .iastore, .dup, .iconst 126, .iconst 32, .iastore, .dup, .iconst 127, .iconst 98, .iastore, .dup, .iconst 128, .iconst 97, .iastore, .dup, .iconst 129, .iconst 114, .iastore, .dup, .iconst 130, .iconst 101, .iastore, .dup, .iconst 131, .iconst 32, .iastore, .dup, .iconst 132, .iconst 116] 859 = true := by decide +kernel
set_option maxRecDepth 100000 in
theorem ck_177_859 : ckB 10 1 none true prog_14_method_1_code 859 [.iastore, .dup, .iconst 133, .iconst 97, .iastore, .dup, .iconst 134, .iconst 98, .iastore, .dup, .iconst 135, .iconst 108, .iastore, .dup, .iconst 136, .iconst 101, .iastore, .dup, .iconst 137, .iconst 32, .iastore, .checkcast 1295, .aload 0, .iconst 2, .newarray .int, .checkcast 1296, .aload 0, .iconst 48, .newarray .int, .checkcast 1297, .aload 0, .iconst 48, .newarray .int, .checkcast 1298, .aload 0, .iconst 48, .newarray .int, .checkcast 1299, .aload 0, .iconst 48] 932 = true := by decide +kernel
set_option maxRecDepth 100000 in
theorem ck_177_932 : ckB 10 1 none true prog_14_method_1_code 932 [.newarray .int, .checkcast 1300, .aload 0, .iconst 1200, .newarray .int, .checkcast 1301, .aload 0, .iconst 1200, .newarray .int, .checkcast 1302, .aload 0, .iconst 40, .newarray .int, .checkcast 1306, .aload 0, .iconst (-1), .putfield 1311, .aload 0, .iconst 128, .newarray .int, .checkcast 1313, .aload 0, .iconst 16, .newarray .int, .checkcast 1315, .aload 0, .iconst 16, .newarray .int, .checkcast 1316, .aload 0, .iconst 96, .newarray .int, .checkcast 1318, .aload 0, .iconst 10, .newarray .int, .checkcast 1319, .aload 0, .iconst 420, .newarray .int] 1015 = true := by decide +kernel
set_option maxRecDepth 100000 in
theorem ck_177_1015 : ckB 10 1 none true prog_14_method_1_code 1015 [.checkcast 1320, .aload 0, .iconst 64, .newarray .int, .checkcast 1321, .aload 0, .iconst 64, .newarray .int, .checkcast 1322, .aload 0, .iconst 64, .newarray .int, .checkcast 1323, .aload 0, .iconst 64, .newarray .int, .checkcast 1324, .aload 0, .iconst 8, .newarray .int, .checkcast 1325, .aload 0, .iconst 12, .newarray .int, .checkcast 1327, .aload 0, .iconst 169, .newarray .int, .checkcast 1328, .aload 0, .iconst 8, .newarray .int, .checkcast 1329, .aload 0, .iconst 4, .newarray .int, .checkcast 1330, .aload 0, .iconst 4, .newarray .int] 1094 = true := by decide +kernel
set_option maxRecDepth 100000 in
theorem ck_177_1094 : ckB 10 1 none true prog_14_method_1_code 1094 [.checkcast 1331, .aload 0, .iconst 4, .newarray .int, .checkcast 1332, .aload 0, .iconst 4509, .newarray .int, .checkcast 1333, .aload 0, .iconst 12, .newarray .int, .checkcast 1335, .aload 0, .iconst 9, .newarray .int, .checkcast 1337, .aload 0, .iconst 3, .newarray .int, .checkcast 1338, .aload 0, .iconst 8, .newarray .int, .checkcast 1340, .aload 0, .iconst 10, .newarray .int, .checkcast 1342, .aload 0, .iconst 7776, .newarray .int, .checkcast 1343, .aload 0, .iconst 5, .newarray .int, .checkcast 1344, .aload 0, .iconst 2400, .newarray .int] 1174 = true := by decide +kernel
set_option maxRecDepth 100000 in
theorem ck_177_1174 : ckB 10 1 none true prog_14_method_1_code 1174 [.checkcast 1348, .return_] 0 = true := by decide +kernel
set_option maxRecDepth 100000 in
theorem ck_177 : ckM 10 1 none true prog_14_method_1_code mb_177 = true := ckM_c ck_177_0 (ckM_c ck_177_77 (ckM_c ck_177_134 (ckM_c ck_177_194 (ckM_c ck_177_254 (ckM_c ck_177_314 (ckM_c ck_177_374 (ckM_c ck_177_434 (ckM_c ck_177_494 (ckM_c ck_177_554 (ckM_c ck_177_614 (ckM_c ck_177_674 (ckM_c ck_177_734 (ckM_c ck_177_794 (ckM_c ck_177_859 (ckM_c ck_177_932 (ckM_c ck_177_1015 (ckM_c ck_177_1094 (ckM_c ck_177_1174 (rfl)))))))))))))))))))
set_option maxRecDepth 100000 in
theorem ck_311_0 : ckB 10 2 none false prog_14_method_136_code 0 [.aload 0, .aload 0, .aload 0, .getfield 1286, .invokeinterface 310 5, .putfield 1286, .aload 0, .aload 0, .aload 0, .getfield 1312, .invokeinterface 310 5, .putfield 1312, .aload 0, .aload 0, .aload 0, .getfield 1314, .invokeinterface 310 5, .putfield 1314, .aload 0, .aload 0, .aload 0, .getfield 1317, .invokeinterface 310 5, .putfield 1317, .aload 0, .aload 0, .aload 0, .getfield 1326, .invokeinterface 310 5, .putfield 1326, .aload 0, .aload 0, .aload 0, .getfield 1334, .invokeinterface 310 5, .putfield 1334, .aload 0, .aload 0, .aload 0, .getfield 1336] 78 = true := by decide +kernel
set_option maxRecDepth 100000 in
theorem ck_311_78 : ckB 10 2 none false prog_14_method_136_code 78 [.invokeinterface 310 5, .putfield 1336, .aload 0, .aload 0, .aload 0, .getfield 1339, .invokeinterface 310 5, .putfield 1339, .aload 0, .aload 0, .aload 0, .getfield 1341, .invokeinterface 310 5, .putfield 1341, .iconst 0, .istore 1] 110 = true := by decide +kernel
set_option maxRecDepth 100000 in
theorem ck_311_110 : ckB 10 2 none false prog_14_method_136_code 110 [.iload 1, .iconst 10, .if_icmp .ge 154, .aload 0, .instanceof 1287, .iload 1, .aload 0, .aload 0, .instanceof 1287, .iload 1, .iaload, .invokeinterface 310 5, .iastore, .aload 0, .instanceof 1342, .iload 1, .aload 0, .aload 0, .instanceof 1342, .iload 1, .iaload, .invokeinterface 310 5, .iastore, .iinc 1 1, .goto 110] 0 = true := by decide +kernel
set_option maxRecDepth 100000 in
theorem ck_311_154 : ckB 10 2 none false prog_14_method_136_code 154 [.iconst 0, .istore 1] 156 = true := by decide +kernel
set_option maxRecDepth 100000 in
theorem ck_311_156 : ckB 10 2 none false prog_14_method_136_code 156 [.iload 1, .iconst 64, .if_icmp .ge 184, .aload 0, .instanceof 1313, .iload 1, .aload 0, .aload 0, .instanceof 1313, .iload 1, .iaload, .invokeinterface 310 5, .iastore, .iinc 1 1, .goto 156] 0 = true := by decide +kernel
set_option maxRecDepth 100000 in
theorem ck_311_184 : ckB 10 2 none false prog_14_method_136_code 184 [.iconst 0, .istore 1] 186 = true := by decide +kernel
set_option maxRecDepth 100000 in
theorem ck_311_186 : ckB 10 2 none false prog_14_method_136_code 186 [.iload 1, .iconst 48, .if_icmp .ge 214, .aload 0, .instanceof 1318, .iload 1, .aload 0, .aload 0, .instanceof 1318, .iload 1, .iaload, .invokeinterface 310 5, .iastore, .iinc 1 1, .goto 186] 0 = true := by decide +kernel
set_option maxRecDepth 100000 in
theorem ck_311_214 : ckB 10 2 none false prog_14_method_136_code 214 [.iconst 0, .istore 1] 216 = true := by decide +kernel
set_option maxRecDepth 100000 in
theorem ck_311_216 : ckB 10 2 none false prog_14_method_136_code 216 [.iload 1, .iconst 8, .if_icmp .ge 276, .aload 0, .instanceof 1325, .iload 1, .aload 0, .aload 0, .instanceof 1325, .iload 1, .iaload, .invokeinterface 310 5, .iastore, .aload 0, .instanceof 1329, .iload 1, .aload 0, .aload 0, .instanceof 1329, .iload 1, .iaload, .invokeinterface 310 5, .iastore, .aload 0, .instanceof 1340, .iload 1, .aload 0, .aload 0, .instanceof 1340, .iload 1, .iaload, .invokeinterface 310 5, .iastore, .iinc 1 1, .goto 216] 0 = true := by decide +kernel
set_option maxRecDepth 100000 in
theorem ck_311_276 : ckB 10 2 none false prog_14_method_136_code 276 [.iconst 0, .istore 1] 278 = true := by decide +kernel
set_option maxRecDepth 100000 in
theorem ck_311_278 : ckB 10 2 none false prog_14_method_136_code 278 [.iload 1, .iconst 12, .if_icmp .ge 322, .aload 0, .instanceof 1327, .iload 1, .aload 0, .aload 0, .instanceof 1327, .iload 1, .iaload, .invokeinterface 310 5, .iastore, .aload 0, .instanceof 1335, .iload 1, .aload 0, .aload 0, .instanceof 1335, .iload 1, .iaload, .invokeinterface 310 5, .iastore, .iinc 1 1, .goto 278] 0 = true := by decide +kernel
set_option maxRecDepth 100000 in
theorem ck_311_322 : ckB 10 2 none false prog_14_method_136_code 322 [.iconst 0, .istore 1] 324 = true := by decide +kernel
set_option maxRecDepth 100000 in
theorem ck_311_324 : ckB 10 2 none false prog_14_method_136_code 324 [.iload 1, .iconst 9, .if_icmp .ge 352, .aload 0, .instanceof 1337, .iload 1, .aload 0, .aload 0, .instanceof 1337, .iload 1, .iaload, .invokeinterface 310 5, .iastore, .iinc 1 1, .goto 324] 0 = true := by decide +kernel
set_option maxRecDepth 100000 in
theorem ck_311_352 : ckB 10 2 none false prog_14_method_136_code 352 [.return_] 0 = true := by decide +kernel
set_option maxRecDepth 100000 in
theorem ck_311 : ckM 10 2 none false prog_14_method_136_code mb_311 = true := ckM_c ck_311_0 (ckM_c ck_311_78 (ckM_c ck_311_110 (ckM_c ck_311_154 (ckM_c ck_311_156 (ckM_c ck_311_184 (ckM_c ck_311_186 (ckM_c ck_311_214 (ckM_c ck_311_216 (ckM_c ck_311_276 (ckM_c ck_311_278 (ckM_c ck_311_322 (ckM_c ck_311_324 (ckM_c ck_311_352 (rfl))))))))))))))
