/-! ===== the methods' blocks, names resolved (printed by wip/gen/out.py) ===== -/
/-- 0: GriefWoodLaw.law([I)Z -/
def mb_0 : List (Nat × List Instr × Nat) := [(0, [.new 13, .dup, .invokeinterface 1 1002, .astore 1, .new 1349, .dup, .invokeinterface 177 11002, .astore 2, .iconst 0, .istore 3], 18),
  (18, [.iload 3, .aload 0, .arraylength, .iconst 6, .isub, .if_icmp .gt 1517, .aload 0, .iload 3, .iaload, .iconst 63, .iand, .lookupswitch 1511 #[(0, 212), (1, 235), (2, 278), (3, 321), (4, 354), (5, 377), (6, 440), (7, 463), (8, 486), (9, 509), (10, 552), (11, 585), (12, 618), (13, 651), (14, 694), (15, 717), (16, 740), (17, 763), (18, 796), (19, 829), (20, 852), (21, 885), (22, 928), (23, 951), (24, 994), (25, 1047), (26, 1070), (27, 1093), (28, 1116), (29, 1139), (30, 1182), (31, 1205), (32, 1248), (33, 1301), (34, 1334), (35, 1367), (36, 1390), (37, 1413), (38, 1436), (39, 1449), (40, 1488)]], 0),
  (212, [.aload 1, .aload 0, .iload 3, .iconst 1, .iadd, .iaload, .invokeinterface 11 1005, .aload 2, .aload 0, .iload 3, .iconst 1, .iadd, .iaload, .invokeinterface 179 11005, .if_icmp .eq 1511, .iconst 0, .freturn], 0),
  (235, [.aload 1, .aload 0, .iload 3, .iconst 1, .iadd, .iaload, .aload 0, .iload 3, .iconst 2, .iadd, .iaload, .aload 0, .iload 3, .iconst 3, .iadd, .iaload, .invokeinterface 13 1009, .aload 2, .aload 0, .iload 3, .iconst 1, .iadd, .iaload, .aload 0, .iload 3, .iconst 2, .iadd, .iaload, .aload 0, .iload 3, .iconst 3, .iadd, .iaload, .invokeinterface 180 11009, .if_icmp .eq 1511, .iconst 0, .freturn], 0),
  (278, [.aload 1, .aload 0, .iload 3, .iconst 1, .iadd, .iaload, .aload 0, .iload 3, .iconst 2, .iadd, .iaload, .aload 0, .iload 3, .iconst 3, .iadd, .iaload, .invokeinterface 16 1009, .aload 2, .aload 0, .iload 3, .iconst 1, .iadd, .iaload, .aload 0, .iload 3, .iconst 2, .iadd, .iaload, .aload 0, .iload 3, .iconst 3, .iadd, .iaload, .invokeinterface 183 11009, .if_icmp .eq 1511, .iconst 0, .freturn], 0),
  (321, [.aload 1, .aload 0, .iload 3, .iconst 1, .iadd, .iaload, .aload 0, .iload 3, .iconst 2, .iadd, .iaload, .invokeinterface 18 1007, .aload 2, .aload 0, .iload 3, .iconst 1, .iadd, .iaload, .aload 0, .iload 3, .iconst 2, .iadd, .iaload, .invokeinterface 224 11007, .if_icmp .eq 1511, .iconst 0, .freturn], 0),
  (354, [.aload 1, .aload 0, .iload 3, .iconst 1, .iadd, .iaload, .invokeinterface 34 1005, .aload 2, .aload 0, .iload 3, .iconst 1, .iadd, .iaload, .invokeinterface 245 11005, .if_icmp .eq 1511, .iconst 0, .freturn], 0),
  (377, [.aload 1, .aload 0, .iload 3, .iconst 1, .iadd, .iaload, .aload 0, .iload 3, .iconst 2, .iadd, .iaload, .aload 0, .iload 3, .iconst 3, .iadd, .iaload, .aload 0, .iload 3, .iconst 4, .iadd, .iaload, .aload 0, .iload 3, .iconst 5, .iadd, .iaload, .invokeinterface 37 1013, .aload 2, .aload 0, .iload 3, .iconst 1, .iadd, .iaload, .aload 0, .iload 3, .iconst 2, .iadd, .iaload, .aload 0, .iload 3], 419),
  (419, [.iconst 3, .iadd, .iaload, .aload 0, .iload 3, .iconst 4, .iadd, .iaload, .aload 0, .iload 3, .iconst 5, .iadd, .iaload, .invokeinterface 185 11013, .if_icmp .eq 1511, .iconst 0, .freturn], 0),
  (440, [.aload 1, .aload 0, .iload 3, .iconst 1, .iadd, .iaload, .invokeinterface 39 1005, .aload 2, .aload 0, .iload 3, .iconst 1, .iadd, .iaload, .invokeinterface 187 11005, .if_icmp .eq 1511, .iconst 0, .freturn], 0),
  (463, [.aload 1, .aload 0, .iload 3, .iconst 1, .iadd, .iaload, .invokeinterface 40 1005, .aload 2, .aload 0, .iload 3, .iconst 1, .iadd, .iaload, .invokeinterface 188 11005, .if_icmp .eq 1511, .iconst 0, .freturn], 0),
  (486, [.aload 1, .aload 0, .iload 3, .iconst 1, .iadd, .iaload, .invokeinterface 88 1005, .aload 2, .aload 0, .iload 3, .iconst 1, .iadd, .iaload, .invokeinterface 223 11005, .if_icmp .eq 1511, .iconst 0, .freturn], 0),
  (509, [.aload 1, .aload 0, .iload 3, .iconst 1, .iadd, .iaload, .aload 0, .iload 3, .iconst 2, .iadd, .iaload, .aload 0, .iload 3, .iconst 3, .iadd, .iaload, .invokeinterface 89 1009, .aload 2, .aload 0, .iload 3, .iconst 1, .iadd, .iaload, .aload 0, .iload 3, .iconst 2, .iadd, .iaload, .aload 0, .iload 3, .iconst 3, .iadd, .iaload, .invokeinterface 250 11009, .if_icmp .eq 1511, .iconst 0, .freturn], 0),
  (552, [.aload 1, .aload 0, .iload 3, .iconst 1, .iadd, .iaload, .aload 0, .iload 3, .iconst 2, .iadd, .iaload, .invokeinterface 92 1007, .aload 2, .aload 0, .iload 3, .iconst 1, .iadd, .iaload, .aload 0, .iload 3, .iconst 2, .iadd, .iaload, .invokeinterface 252 11007, .if_icmp .eq 1511, .iconst 0, .freturn], 0),
  (585, [.aload 1, .aload 0, .iload 3, .iconst 1, .iadd, .iaload, .aload 0, .iload 3, .iconst 2, .iadd, .iaload, .invokeinterface 93 1007, .aload 2, .aload 0, .iload 3, .iconst 1, .iadd, .iaload, .aload 0, .iload 3, .iconst 2, .iadd, .iaload, .invokeinterface 253 11007, .if_icmp .eq 1511, .iconst 0, .freturn], 0),
  (618, [.aload 1, .aload 0, .iload 3, .iconst 1, .iadd, .iaload, .aload 0, .iload 3, .iconst 2, .iadd, .iaload, .invokeinterface 94 1007, .aload 2, .aload 0, .iload 3, .iconst 1, .iadd, .iaload, .aload 0, .iload 3, .iconst 2, .iadd, .iaload, .invokeinterface 254 11007, .if_icmp .eq 1511, .iconst 0, .freturn], 0),
  (651, [.aload 1, .aload 0, .iload 3, .iconst 1, .iadd, .iaload, .aload 0, .iload 3, .iconst 2, .iadd, .iaload, .aload 0, .iload 3, .iconst 3, .iadd, .iaload, .invokeinterface 97 1009, .aload 2, .aload 0, .iload 3, .iconst 1, .iadd, .iaload, .aload 0, .iload 3, .iconst 2, .iadd, .iaload, .aload 0, .iload 3, .iconst 3, .iadd, .iaload, .invokeinterface 259 11009, .if_icmp .eq 1511, .iconst 0, .freturn], 0),
  (694, [.aload 1, .aload 0, .iload 3, .iconst 1, .iadd, .iaload, .invokeinterface 98 1005, .aload 2, .aload 0, .iload 3, .iconst 1, .iadd, .iaload, .invokeinterface 260 11005, .if_icmp .eq 1511, .iconst 0, .freturn], 0),
  (717, [.aload 1, .aload 0, .iload 3, .iconst 1, .iadd, .iaload, .invokeinterface 100 1005, .aload 2, .aload 0, .iload 3, .iconst 1, .iadd, .iaload, .invokeinterface 261 11005, .if_icmp .eq 1511, .iconst 0, .freturn], 0),
  (740, [.aload 1, .aload 0, .iload 3, .iconst 1, .iadd, .iaload, .invokeinterface 103 1005, .aload 2, .aload 0, .iload 3, .iconst 1, .iadd, .iaload, .invokeinterface 264 11005, .if_icmp .eq 1511, .iconst 0, .freturn], 0),
  (763, [.aload 1, .aload 0, .iload 3, .iconst 1, .iadd, .iaload, .aload 0, .iload 3, .iconst 2, .iadd, .iaload, .invokeinterface 107 1007, .aload 2, .aload 0, .iload 3, .iconst 1, .iadd, .iaload, .aload 0, .iload 3, .iconst 2, .iadd, .iaload, .invokeinterface 268 11007, .if_icmp .eq 1511, .iconst 0, .freturn], 0),
  (796, [.aload 1, .aload 0, .iload 3, .iconst 1, .iadd, .iaload, .aload 0, .iload 3, .iconst 2, .iadd, .iaload, .invokeinterface 108 1007, .aload 2, .aload 0, .iload 3, .iconst 1, .iadd, .iaload, .aload 0, .iload 3, .iconst 2, .iadd, .iaload, .invokeinterface 269 11007, .if_icmp .eq 1511, .iconst 0, .freturn], 0),
  (829, [.aload 1, .aload 0, .iload 3, .iconst 1, .iadd, .iaload, .invokeinterface 111 1005, .aload 2, .aload 0, .iload 3, .iconst 1, .iadd, .iaload, .invokeinterface 272 11005, .if_icmp .eq 1511, .iconst 0, .freturn], 0),
  (852, [.aload 1, .aload 0, .iload 3, .iconst 1, .iadd, .iaload, .aload 0, .iload 3, .iconst 2, .iadd, .iaload, .invokeinterface 113 1007, .aload 2, .aload 0, .iload 3, .iconst 1, .iadd, .iaload, .aload 0, .iload 3, .iconst 2, .iadd, .iaload, .invokeinterface 273 11007, .if_icmp .eq 1511, .iconst 0, .freturn], 0),
  (885, [.aload 1, .aload 0, .iload 3, .iconst 1, .iadd, .iaload, .aload 0, .iload 3, .iconst 2, .iadd, .iaload, .aload 0, .iload 3, .iconst 3, .iadd, .iaload, .invokeinterface 120 1009, .aload 2, .aload 0, .iload 3, .iconst 1, .iadd, .iaload, .aload 0, .iload 3, .iconst 2, .iadd, .iaload, .aload 0, .iload 3, .iconst 3, .iadd, .iaload, .invokeinterface 275 11009, .if_icmp .eq 1511, .iconst 0, .freturn], 0),
  (928, [.aload 1, .aload 0, .iload 3, .iconst 1, .iadd, .iaload, .invokeinterface 124 1005, .aload 2, .aload 0, .iload 3, .iconst 1, .iadd, .iaload, .invokeinterface 276 11005, .if_icmp .eq 1511, .iconst 0, .freturn], 0),
  (951, [.aload 1, .aload 0, .iload 3, .iconst 1, .iadd, .iaload, .aload 0, .iload 3, .iconst 2, .iadd, .iaload, .aload 0, .iload 3, .iconst 3, .iadd, .iaload, .invokeinterface 130 1009, .aload 2, .aload 0, .iload 3, .iconst 1, .iadd, .iaload, .aload 0, .iload 3, .iconst 2, .iadd, .iaload, .aload 0, .iload 3, .iconst 3, .iadd, .iaload, .invokeinterface 282 11009, .if_icmp .eq 1511, .iconst 0, .freturn], 0),
  (994, [.aload 1, .aload 0, .iload 3, .iconst 1, .iadd, .iaload, .aload 0, .iload 3, .iconst 2, .iadd, .iaload, .aload 0, .iload 3, .iconst 3, .iadd, .iaload, .aload 0, .iload 3, .iconst 4, .iadd, .iaload, .invokeinterface 132 1011, .aload 2, .aload 0, .iload 3, .iconst 1, .iadd, .iaload, .aload 0, .iload 3, .iconst 2, .iadd, .iaload, .aload 0, .iload 3, .iconst 3, .iadd, .iaload, .aload 0, .iload 3], 1036),
  (1036, [.iconst 4, .iadd, .iaload, .invokeinterface 285 11011, .if_icmp .eq 1511, .iconst 0, .freturn], 0),
  (1047, [.aload 1, .aload 0, .iload 3, .iconst 1, .iadd, .iaload, .invokeinterface 135 1005, .aload 2, .aload 0, .iload 3, .iconst 1, .iadd, .iaload, .invokeinterface 286 11005, .if_icmp .eq 1511, .iconst 0, .freturn], 0),
  (1070, [.aload 1, .aload 0, .iload 3, .iconst 1, .iadd, .iaload, .invokeinterface 136 1005, .aload 2, .aload 0, .iload 3, .iconst 1, .iadd, .iaload, .invokeinterface 287 11005, .if_icmp .eq 1511, .iconst 0, .freturn], 0),
  (1093, [.aload 1, .aload 0, .iload 3, .iconst 1, .iadd, .iaload, .invokeinterface 142 1005, .aload 2, .aload 0, .iload 3, .iconst 1, .iadd, .iaload, .invokeinterface 291 11005, .if_icmp .eq 1511, .iconst 0, .freturn], 0),
  (1116, [.aload 1, .aload 0, .iload 3, .iconst 1, .iadd, .iaload, .invokeinterface 143 1005, .aload 2, .aload 0, .iload 3, .iconst 1, .iadd, .iaload, .invokeinterface 292 11005, .if_icmp .eq 1511, .iconst 0, .freturn], 0),
  (1139, [.aload 1, .aload 0, .iload 3, .iconst 1, .iadd, .iaload, .aload 0, .iload 3, .iconst 2, .iadd, .iaload, .aload 0, .iload 3, .iconst 3, .iadd, .iaload, .invokeinterface 146 1009, .aload 2, .aload 0, .iload 3, .iconst 1, .iadd, .iaload, .aload 0, .iload 3, .iconst 2, .iadd, .iaload, .aload 0, .iload 3, .iconst 3, .iadd, .iaload, .invokeinterface 294 11009, .if_icmp .eq 1511, .iconst 0, .freturn], 0),
  (1182, [.aload 1, .aload 0, .iload 3, .iconst 1, .iadd, .iaload, .invokeinterface 148 1005, .aload 2, .aload 0, .iload 3, .iconst 1, .iadd, .iaload, .invokeinterface 295 11005, .if_icmp .eq 1511, .iconst 0, .freturn], 0),
  (1205, [.aload 1, .aload 0, .iload 3, .iconst 1, .iadd, .iaload, .aload 0, .iload 3, .iconst 2, .iadd, .iaload, .aload 0, .iload 3, .iconst 3, .iadd, .iaload, .invokeinterface 149 1009, .aload 2, .aload 0, .iload 3, .iconst 1, .iadd, .iaload, .aload 0, .iload 3, .iconst 2, .iadd, .iaload, .aload 0, .iload 3, .iconst 3, .iadd, .iaload, .invokeinterface 298 11009, .if_icmp .eq 1511, .iconst 0, .freturn], 0),
  (1248, [.aload 1, .aload 0, .iload 3, .iconst 1, .iadd, .iaload, .aload 0, .iload 3, .iconst 2, .iadd, .iaload, .aload 0, .iload 3, .iconst 3, .iadd, .iaload, .aload 0, .iload 3, .iconst 4, .iadd, .iaload, .invokeinterface 152 1011, .aload 2, .aload 0, .iload 3, .iconst 1, .iadd, .iaload, .aload 0, .iload 3, .iconst 2, .iadd, .iaload, .aload 0, .iload 3, .iconst 3, .iadd, .iaload, .aload 0, .iload 3], 1290),
  (1290, [.iconst 4, .iadd, .iaload, .invokeinterface 296 11011, .if_icmp .eq 1511, .iconst 0, .freturn], 0),
  (1301, [.aload 1, .aload 0, .iload 3, .iconst 1, .iadd, .iaload, .aload 0, .iload 3, .iconst 2, .iadd, .iaload, .invokeinterface 154 1007, .aload 2, .aload 0, .iload 3, .iconst 1, .iadd, .iaload, .aload 0, .iload 3, .iconst 2, .iadd, .iaload, .invokeinterface 299 11007, .if_icmp .eq 1511, .iconst 0, .freturn], 0),
  (1334, [.aload 1, .aload 0, .iload 3, .iconst 1, .iadd, .iaload, .aload 0, .iload 3, .iconst 2, .iadd, .iaload, .invokeinterface 156 1007, .aload 2, .aload 0, .iload 3, .iconst 1, .iadd, .iaload, .aload 0, .iload 3, .iconst 2, .iadd, .iaload, .invokeinterface 301 11007, .if_icmp .eq 1511, .iconst 0, .freturn], 0),
  (1367, [.aload 1, .aload 0, .iload 3, .iconst 1, .iadd, .iaload, .invokeinterface 158 1005, .aload 2, .aload 0, .iload 3, .iconst 1, .iadd, .iaload, .invokeinterface 302 11005, .if_icmp .eq 1511, .iconst 0, .freturn], 0),
  (1390, [.aload 1, .aload 0, .iload 3, .iconst 1, .iadd, .iaload, .invokeinterface 159 1005, .aload 2, .aload 0, .iload 3, .iconst 1, .iadd, .iaload, .invokeinterface 303 11005, .if_icmp .eq 1511, .iconst 0, .freturn], 0),
  (1413, [.aload 1, .aload 0, .iload 3, .iconst 1, .iadd, .iaload, .invokeinterface 162 1005, .aload 2, .aload 0, .iload 3, .iconst 1, .iadd, .iaload, .invokeinterface 304 11005, .if_icmp .eq 1511, .iconst 0, .freturn], 0),
  (1436, [.aload 1, .invokeinterface 170 1003, .aload 2, .invokeinterface 178 11003, .if_icmp .eq 1511, .iconst 0, .freturn], 0),
  (1449, [.aload 1, .aload 0, .iload 3, .iconst 1, .iadd, .iaload, .ifCond .eq 1462, .iconst 1, .goto 1463], 0),
  (1462, [.iconst 0], 1463),
  (1463, [.invokeinterface 171 1005, .aload 2, .aload 0, .iload 3, .iconst 1, .iadd, .iaload, .ifCond .eq 1479, .iconst 1, .goto 1480], 0),
  (1479, [.iconst 0], 1480),
  (1480, [.invokeinterface 309 11005, .if_icmp .eq 1511, .iconst 0, .freturn], 0),
  (1488, [.aload 1, .aload 0, .iload 3, .iconst 1, .iadd, .iaload, .invokeinterface 176 1005, .aload 2, .aload 0, .iload 3, .iconst 1, .iadd, .iaload, .invokeinterface 313 11005, .if_icmp .eq 1511, .iconst 0, .freturn], 0),
  (1511, [.iinc 3 6, .goto 18], 0),
  (1517, [.iconst 1, .freturn], 0)]
/-- 1: GriefWood.<init>()V -/
def mb_1 : List (Nat × List Instr × Nat) := [(0, [.aload 0, .monitorenter, .aload 0, .new 135, .dup, .invokeinterface 2 2002, .checkcast 0, .aload 0, .new 135, .dup, .invokeinterface 2 2002, .checkcast 1, .aload 0, .new 783, .dup, .iconst 1, .invokeinterface 3 7004, .checkcast 3, .aload 0, .iconst 6, .anewarray 0, .checkcast 4, .aload 0, .iconst 400, .newarray .char, .checkcast 7, .aload 0, .new 1030, .dup, .invokeinterface 9 9002, .checkcast 9, .aload 0, .new 391, .dup, .invokeinterface 5 4002, .checkcast 10, .aload 0, .iconst (-1), .putfield 12, .iconst 0], 84),
  (84, [.istore 1], 85),
  (85, [.iload 1, .aload 0, .instanceof 4, .arraylength, .if_icmp .ge 114, .aload 0, .instanceof 4, .iload 1, .new 783, .dup, .iconst 0, .invokeinterface 3 7004, .aastore, .iinc 1 1, .goto 85], 0),
  (114, [.return_], 0)]
/-- 2: GriefWood$Whole.<init>()V -/
def mb_2 : List (Nat × List Instr × Nat) := [(0, [.aload 0, .monitorenter, .aload 0, .new 783, .dup, .iconst 0, .invokeinterface 3 7004, .checkcast 128, .aload 0, .new 265, .dup, .invokeinterface 4 3002, .checkcast 129, .aload 0, .new 391, .dup, .invokeinterface 5 4002, .checkcast 130, .aload 0, .new 391, .dup, .invokeinterface 5 4002, .checkcast 131, .aload 0, .new 520, .dup, .invokeinterface 6 5002, .checkcast 132, .aload 0, .iconst 600, .newarray .int, .checkcast 134, .return_], 0)]
/-- 3: GriefWood$Scene.<init>(Z)V -/
def mb_3 : List (Nat × List Instr × Nat) := [(0, [.aload 0, .monitorenter, .aload 0, .iconst 64, .newarray .int, .checkcast 769, .aload 0, .iconst 64, .newarray .int, .checkcast 770, .aload 0, .iconst 64, .newarray .int, .checkcast 771, .aload 0, .iconst 10, .newarray .int, .checkcast 772, .aload 0, .iconst 10, .newarray .int, .checkcast 773, .aload 0, .iconst 10, .newarray .int, .checkcast 774, .aload 0, .iconst 10, .newarray .int, .checkcast 775, .aload 0, .iconst 10, .newarray .int, .checkcast 776, .aload 0, .iload 1, .putstatic 768, .return_], 0)]
/-- 4: GriefWood$Law.<init>()V -/
def mb_4 : List (Nat × List Instr × Nat) := [(0, [.aload 0, .monitorenter, .aload 0, .iconst 400, .newarray .int, .checkcast 256, .aload 0, .iconst 16, .newarray .int, .checkcast 257, .aload 0, .iconst 16, .newarray .int, .checkcast 258, .aload 0, .iconst 16, .newarray .int, .checkcast 259, .aload 0, .iconst 16, .newarray .int, .checkcast 260, .aload 0, .iconst 10, .newarray .int, .checkcast 263, .aload 0, .iconst 32, .newarray .int, .checkcast 264, .return_], 0)]
/-- 5: GriefWood$Lines.<init>()V -/
def mb_5 : List (Nat × List Instr × Nat) := [(0, [.aload 0, .monitorenter, .aload 0, .iconst 16, .newarray .int, .checkcast 384, .aload 0, .iconst 16, .newarray .int, .checkcast 385, .aload 0, .iconst 16, .newarray .int, .checkcast 386, .aload 0, .iconst 16, .newarray .int, .checkcast 387, .aload 0, .iconst 16, .newarray .int, .checkcast 388, .aload 0, .iconst 16, .newarray .int, .checkcast 389, .return_], 0)]
/-- 6: GriefWood$Told.<init>()V -/
def mb_6 : List (Nat × List Instr × Nat) := [(0, [.aload 0, .monitorenter, .aload 0, .iconst 8, .newarray .int, .checkcast 512, .aload 0, .new 644, .dup, .iconst 12, .iconst 1, .iconst 99, .invokeinterface 7 6008, .checkcast 513, .aload 0, .new 644, .dup, .iconst 12, .iconst 0, .iconst 99, .invokeinterface 7 6008, .checkcast 514, .aload 0, .new 644, .dup, .iconst 9, .iconst 1, .iconst 60, .invokeinterface 7 6008, .checkcast 515, .aload 0, .new 644, .dup, .iconst 10, .iconst 0, .iconst 1023, .invokeinterface 7 6008, .checkcast 516, .aload 0, .new 897], 81),
  (81, [.dup, .invokeinterface 8 8002, .checkcast 517, .return_], 0)]
/-- 7: GriefWood$Row.<init>(III)V -/
def mb_7 : List (Nat × List Instr × Nat) := [(0, [.aload 0, .monitorenter, .aload 0, .iload 1, .iconst 0, .d2f, .newarray .int, .checkcast 640, .aload 0, .iload 2, .putfield 641, .aload 0, .iload 3, .putfield 642, .return_], 0)]
/-- 8: GriefWood$Wishes.<init>()V -/
def mb_8 : List (Nat × List Instr × Nat) := [(0, [.aload 0, .monitorenter, .aload 0, .iconst 8, .iconst 4, .multianewarray 0 0, .checkcast 896, .iconst 0, .istore 1], 17),
  (17, [.iload 1, .aload 0, .instanceof 896, .arraylength, .if_icmp .ge 54, .iconst 0, .istore 2], 28),
  (28, [.iload 2, .iconst 4, .if_icmp .ge 48, .aload 0, .instanceof 896, .iload 1, .aaload, .iload 2, .iload 2, .iastore, .iinc 2 1, .goto 28], 0),
  (48, [.iinc 1 1, .goto 17], 0),
  (54, [.return_], 0)]
/-- 9: GriefWood$LawReader.<init>()V -/
def mb_9 : List (Nat × List Instr × Nat) := [(0, [.aload 0, .monitorenter, .aload 0, .new 1158, .dup, .invokeinterface 10 10002, .checkcast 1024, .aload 0, .new 265, .dup, .invokeinterface 4 3002, .checkcast 1025, .aload 0, .iconst 32, .newarray .int, .checkcast 1026, .return_], 0)]
/-- 10: GriefWood$Tokens.<init>()V -/
def mb_10 : List (Nat × List Instr × Nat) := [(0, [.aload 0, .monitorenter, .aload 0, .iconst 401, .newarray .int, .checkcast 1152, .aload 0, .iconst 401, .newarray .int, .checkcast 1153, .return_], 0)]
/-- 11: GriefWood.state(I)I -/
def mb_11 : List (Nat × List Instr × Nat) := [(0, [.aload 0, .instanceof 0, .instanceof 128, .getfield 781, .istore 2, .aload 0, .instanceof 0, .instanceof 128, .iload 1, .putfield 781, .aload 0, .invokeinterface 12 1002, .iload 2, .ireturn], 0)]
/-- 12: GriefWood.forget()V -/
def mb_12 : List (Nat × List Instr × Nat) := [(0, [.aload 0, .iconst 0, .putfield 5, .return_], 0)]
/-- 13: GriefWood.seeker(III)I -/
def mb_13 : List (Nat × List Instr × Nat) := [(0, [.aload 0, .instanceof 0, .instanceof 128, .astore 4, .iload 1, .iconst 0, .iconst 99, .invokeinterface 14 7, .ifCond .eq 37, .iload 2, .iload 3, .invokeinterface 15 5, .ifCond .eq 37, .aload 4, .getfield 777, .iconst 10, .if_icmp .lt 39], 37),
  (37, [.iconst (-1), .ireturn], 0),
  (39, [.aload 4, .getfield 777, .istore 5, .aload 4, .instanceof 772, .iload 5, .iload 1, .iastore, .aload 4, .instanceof 773, .iload 5, .iconst 8, .iload 3, .imul, .iload 2, .iadd, .iastore, .aload 4, .instanceof 774, .iload 5, .iconst 0, .iastore, .aload 4, .instanceof 775, .iload 5, .iconst 0, .iastore, .aload 4, .instanceof 776, .iload 5, .iconst 0, .iastore, .aload 4, .iload 5, .iconst 1, .iadd, .putfield 777, .aload 0, .invokeinterface 12 1002, .iload 5, .ireturn], 0)]
/-- 14: GriefWood.within(III)Z -/
def mb_14 : List (Nat × List Instr × Nat) := [(0, [.iload 0, .iload 1, .if_icmp .lt 14, .iload 0, .iload 2, .if_icmp .gt 14, .iconst 1, .goto 15], 0),
  (14, [.iconst 0], 15),
  (15, [.freturn], 0)]
/-- 15: GriefWood.isCell(II)Z -/
def mb_15 : List (Nat × List Instr × Nat) := [(0, [.iload 0, .iconst 0, .iconst 7, .invokeinterface 14 7, .ifCond .eq 24, .iload 1, .iconst 0, .iconst 7, .invokeinterface 14 7, .ifCond .eq 24, .iconst 1, .goto 25], 0),
  (24, [.iconst 0], 25),
  (25, [.freturn], 0)]
/-- 16: GriefWood.set(III)Z -/
def mb_16 : List (Nat × List Instr × Nat) := [(0, [.aload 0, .instanceof 0, .instanceof 128, .astore 4, .iload 1, .ifCond .ne 42, .aload 0, .iload 2, .invokeinterface 17 1005, .ifCond .eq 42, .iload 3, .iconst 0, .iconst 99, .invokeinterface 14 7, .ifCond .eq 42, .aload 4, .instanceof 772, .iload 2, .iload 3, .iastore, .goto 103], 0),
  (42, [.iload 1, .iconst 1, .if_icmp .ne 76, .aload 0, .iload 2, .invokeinterface 17 1005, .ifCond .eq 76, .iload 3, .iconst 0, .iconst 9, .invokeinterface 14 7, .ifCond .eq 76, .aload 4, .instanceof 774, .iload 2, .iload 3, .iastore, .goto 103], 0),
  (76, [.iload 1, .iconst 2, .if_icmp .ne 101, .iload 3, .iconst 0, .iconst 9999, .invokeinterface 14 7, .ifCond .eq 101, .aload 4, .iload 3, .putfield 778, .goto 103], 0),
  (101, [.iconst 0, .freturn], 0),
  (103, [.aload 0, .invokeinterface 12 1002, .iconst 1, .freturn], 0)]
/-- 17: GriefWood.isSeeker(I)Z -/
def mb_17 : List (Nat × List Instr × Nat) := [(0, [.iload 1, .iconst 0, .aload 0, .instanceof 0, .instanceof 128, .getfield 777, .iconst 1, .isub, .invokeinterface 14 7, .freturn], 0)]
/-- 18: GriefWood.act(II)Z -/
def mb_18 : List (Nat × List Instr × Nat) := [(0, [.aload 0, .iload 2, .invokeinterface 17 1005, .ifCond .eq 17, .iload 1, .iconst 0, .iconst 3, .invokeinterface 14 7, .ifCond .ne 19], 17),
  (17, [.iconst 0, .freturn], 0),
  (19, [.aload 0, .instanceof 0, .instanceof 128, .astore 3, .iload 1, .iconst 1, .if_icmp .ne 43, .aload 3, .instanceof 774, .iload 2, .iaload, .iconst 9, .if_icmp .ge 57], 43),
  (43, [.iload 1, .iconst 2, .if_icmp .ne 59, .aload 3, .instanceof 774, .iload 2, .iaload, .ifCond .gt 59], 57),
  (57, [.iconst 0, .freturn], 0),
  (59, [.aload 0, .invokeinterface 19 1002, .iload 1, .lookupswitch 131 #[(0, 92), (1, 105), (2, 118)]], 0),
  (92, [.aload 0, .instanceof 0, .aload 3, .iload 2, .invokeinterface 21 2007, .pop, .goto 141], 0),
  (105, [.aload 3, .instanceof 774, .iload 2, .dup2, .iaload, .iconst 1, .iadd, .iastore, .goto 141], 0),
  (118, [.aload 3, .instanceof 774, .iload 2, .dup2, .iaload, .iconst 1, .isub, .iastore, .goto 141], 0),
  (131, [.aload 0, .instanceof 0, .aload 3, .iload 2, .invokeinterface 32 2007, .pop], 141),
  (141, [.iconst 1, .freturn], 0)]
/-- 19: GriefWood.keep()V -/
def mb_19 : List (Nat × List Instr × Nat) := [(0, [.aload 0, .instanceof 4, .aload 0, .getfield 6, .aaload, .aload 0, .instanceof 0, .instanceof 128, .invokeinterface 20 7004, .aload 0, .aload 0, .getfield 6, .iconst 1, .iadd, .iconst 6, .irem, .putfield 6, .aload 0, .aload 0, .getfield 5, .iconst 1, .iadd, .iconst 6, .d2i, .putfield 5, .return_], 0)]
/-- 20: GriefWood$Scene.copyFrom(LGriefWood$Scene;)V -/
def mb_20 : List (Nat × List Instr × Nat) := [(0, [.aload 1, .instanceof 769, .iconst 0, .aload 0, .instanceof 769, .iconst 0, .iconst 64, .dneg, .aload 1, .instanceof 770, .iconst 0, .aload 0, .instanceof 770, .iconst 0, .iconst 64, .dneg, .aload 1, .instanceof 771, .iconst 0, .aload 0, .instanceof 771, .iconst 0, .iconst 64, .dneg, .aload 1, .instanceof 772, .iconst 0, .aload 0, .instanceof 772, .iconst 0, .iconst 10, .dneg, .aload 1, .instanceof 773, .iconst 0, .aload 0, .instanceof 773, .iconst 0, .iconst 10, .dneg], 75),
  (75, [.aload 1, .instanceof 774, .iconst 0, .aload 0, .instanceof 774, .iconst 0, .iconst 10, .dneg, .aload 1, .instanceof 775, .iconst 0, .aload 0, .instanceof 775, .iconst 0, .iconst 10, .dneg, .aload 1, .instanceof 776, .iconst 0, .aload 0, .instanceof 776, .iconst 0, .iconst 10, .dneg, .aload 0, .aload 1, .getfield 777, .putfield 777, .aload 0, .aload 1, .getfield 778, .putfield 778, .aload 0, .aload 1, .getfield 779, .putfield 779, .aload 0, .aload 1, .getfield 780, .putfield 780], 152),
  (152, [.aload 0, .aload 1, .getfield 781, .putfield 781, .aload 0, .aload 1, .getfield 782, .putfield 782, .return_], 0)]
/-- 21: GriefWood$Whole.step(LGriefWood$Scene;I)I -/
def mb_21 : List (Nat × List Instr × Nat) := [(0, [.aload 1, .instanceof 773, .iload 2, .iaload, .aload 0, .aload 1, .iload 2, .invokeinterface 22 2007, .invokeinterface 23 5, .istore 3, .iload 3, .iconst (-1), .if_icmp .eq 28, .aload 1, .instanceof 773, .iload 2, .iload 3, .iastore], 28),
  (28, [.aload 0, .instanceof 129, .iconst 10011, .aload 1, .iload 2, .aload 1, .instanceof 773, .iload 2, .iaload, .invokeinterface 24 3011, .istore 4, .aload 1, .getfield 768, .ifCond .eq 73, .iload 4, .iconst 500, .if_icmp .lt 67, .iconst 1, .goto 68], 0),
  (67, [.iconst 0], 68),
  (68, [.istore 5, .goto 97], 0),
  (73, [.iload 4, .ifCond .le 94, .aload 1, .iconst 1000, .invokeinterface 31 7005, .iload 4, .if_icmp .ge 94, .iconst 1, .goto 95], 0),
  (94, [.iconst 0], 95),
  (95, [.istore 5], 97),
  (97, [.iload 5, .ifCond .eq 111, .aload 0, .aload 1, .iload 2, .invokeinterface 32 2007, .goto 112], 0),
  (111, [.iconst 0], 112),
  (112, [.ireturn], 0)]
/-- 22: GriefWood$Whole.sideOf(LGriefWood$Scene;I)I -/
def mb_22 : List (Nat × List Instr × Nat) := [(0, [.iconst (-1), .istore 3, .iconst 0, .istore 4, .iconst 0, .istore 5], 8),
  (8, [.iload 5, .iconst 4, .if_icmp .ge 74, .aload 1, .instanceof 773, .iload 2, .iaload, .iload 5, .invokeinterface 23 5, .istore 6, .iload 6, .iconst (-1), .if_icmp .eq 68, .aload 0, .instanceof 129, .iconst 10010, .aload 1, .iload 2, .iload 6, .invokeinterface 24 3011, .istore 7, .iload 3, .iconst (-1), .if_icmp .eq 61, .iload 7, .iload 4, .if_icmp .le 68], 61),
  (61, [.iload 5, .istore 3, .iload 7, .istore 4], 68),
  (68, [.iinc 5 1, .goto 8], 0),
  (74, [.iload 3, .ireturn], 0)]
/-- 23: GriefWood$Scene.beside(II)I -/
def mb_23 : List (Nat × List Instr × Nat) := [(0, [.iload 0, .iconst 8, .irem, .ldc 1, .iload 1, .iconst 3, .iand, .iaload, .iadd, .istore 2, .iload 0, .iconst 8, .idiv, .ldc 2, .iload 1, .iconst 3, .iand, .iaload, .iadd, .istore 3, .iload 2, .iload 3, .invokeinterface 15 5, .ifCond .eq 43, .iconst 8, .iload 3, .imul, .iload 2, .iadd, .goto 44], 0),
  (43, [.iconst (-1)], 44),
  (44, [.ireturn], 0)]
/-- 24: GriefWood$Law.ask(ILGriefWood$Scene;II)I -/
def mb_24 : List (Nat × List Instr × Nat) := [(0, [.aload 0, .aload 2, .iload 3, .iload 4, .invokeinterface 25 3008, .iconst 0, .istore 5], 11),
  (11, [.iload 5, .aload 0, .getfield 261, .if_icmp .ge 98, .aload 0, .instanceof 257, .iload 5, .iaload, .iload 1, .if_icmp .ne 92, .aload 0, .instanceof 259, .iload 5, .iaload, .aload 0, .instanceof 260, .iload 5, .iaload, .if_icmp .eq 69, .aload 0, .aload 0, .instanceof 259, .iload 5, .iaload, .aload 0, .instanceof 260, .iload 5, .iaload, .invokeinterface 26 3007, .ifCond .eq 92], 69),
  (69, [.iload 1, .aload 0, .aload 0, .instanceof 258, .iload 5, .iaload, .aload 0, .instanceof 259, .iload 5, .iaload, .invokeinterface 26 3007, .invokeinterface 29 5, .ireturn], 0),
  (92, [.iinc 5 1, .goto 11], 0),
  (98, [.iload 1, .aload 0, .iload 1, .invokeinterface 30 3005, .invokeinterface 29 5, .ireturn], 0)]
/-- 25: GriefWood$Law.see(LGriefWood$Scene;II)V -/
def mb_25 : List (Nat × List Instr × Nat) := [(0, [.aload 0, .instanceof 263, .iconst 0, .aload 1, .instanceof 772, .iload 2, .iaload, .iastore, .aload 0, .instanceof 263, .iconst 1, .aload 1, .instanceof 774, .iload 2, .iaload, .iastore, .aload 0, .instanceof 263, .iconst 2, .aload 1, .instanceof 769, .iload 3, .iaload, .iastore, .aload 0, .instanceof 263, .iconst 3, .aload 1, .instanceof 770, .iload 3, .iaload, .iastore, .aload 0, .instanceof 263, .iconst 4, .aload 1, .instanceof 771, .iload 3, .iaload, .iastore], 60),
  (60, [.aload 0, .instanceof 263, .iconst 5, .iload 3, .iconst 8, .irem, .iastore, .aload 0, .instanceof 263, .iconst 6, .iload 3, .iconst 8, .idiv, .iastore, .aload 0, .instanceof 263, .iconst 7, .aload 1, .instanceof 775, .iload 2, .iaload, .iastore, .aload 0, .instanceof 263, .iconst 8, .iconst 0, .aload 1, .getfield 778, .iconst 9999, .d2i, .d2f, .iastore, .aload 0, .instanceof 263, .iconst 9, .aload 1, .getfield 780, .iastore, .return_], 0)]
/-- 26: GriefWood$Law.reckon(II)I -/
def mb_26 : List (Nat × List Instr × Nat) := [(0, [.iconst 0, .istore 3, .iload 1, .istore 4], 5),
  (5, [.iload 4, .iload 2, .if_icmp .ge 156, .iload 4, .aload 0, .getfield 262, .if_icmp .ge 156, .aload 0, .instanceof 256, .iload 4, .iaload, .istore 5, .iload 5, .invokeinterface 27 3, .ifCond .eq 82, .iload 3, .aload 0, .instanceof 264, .arraylength, .if_icmp .ge 150, .aload 0, .instanceof 264, .iload 3, .iload 5, .iconst 10000, .if_icmp .ge 64, .iload 5, .goto 75], 0),
  (64, [.aload 0, .instanceof 263, .iload 5, .iconst 10000, .isub, .iaload], 75),
  (75, [.iastore, .iinc 3 1, .goto 150], 0),
  (82, [.iload 5, .iconst 10016, .if_icmp .ne 115, .iload 3, .ifCond .le 150, .aload 0, .instanceof 264, .iload 3, .iconst 1, .isub, .iconst 1, .aload 0, .instanceof 264, .iload 3, .iconst 1, .isub, .iaload, .isub, .iastore, .goto 150], 0),
  (115, [.iload 3, .iconst 1, .if_icmp .le 150, .iinc 3 (-1), .aload 0, .instanceof 264, .iload 3, .iconst 1, .isub, .iload 5, .aload 0, .instanceof 264, .iload 3, .iconst 1, .isub, .iaload, .aload 0, .instanceof 264, .iload 3, .iaload, .invokeinterface 28 7, .iastore], 150),
  (150, [.iinc 4 1, .goto 5], 0),
  (156, [.iload 3, .ifCond .le 169, .aload 0, .instanceof 264, .iconst 0, .iaload, .goto 170], 0),
  (169, [.iconst 0], 170),
  (170, [.ireturn], 0)]
/-- 27: GriefWood$LawReader.isOperand(I)Z -/
def mb_27 : List (Nat × List Instr × Nat) := [(0, [.iload 0, .iconst 10010, .if_icmp .ge 11, .iconst 1, .goto 12], 0),
  (11, [.iconst 0], 12),
  (12, [.freturn], 0)]
/-- 28: GriefWood$Law.joined(III)I -/
def mb_28 : List (Nat × List Instr × Nat) := [(0, [.iload 0, .lookupswitch 137 #[(10015, 133), (20042, 84), (20043, 76), (20045, 80), (20047, 88), (20060, 100), (20061, 111), (20062, 122)]], 0),
  (76, [.iload 1, .iload 2, .iadd, .ireturn], 0),
  (80, [.iload 1, .iload 2, .isub, .ireturn], 0),
  (84, [.iload 1, .iload 2, .imul, .ireturn], 0),
  (88, [.iload 2, .ifCond .ne 96, .iconst 0, .goto 99], 0),
  (96, [.iload 1, .iload 2, .idiv], 99),
  (99, [.ireturn], 0),
  (100, [.iload 1, .iload 2, .if_icmp .ge 109, .iconst 1, .goto 110], 0),
  (109, [.iconst 0], 110),
  (110, [.ireturn], 0),
  (111, [.iload 1, .iload 2, .if_icmp .ne 120, .iconst 1, .goto 121], 0),
  (120, [.iconst 0], 121),
  (121, [.ireturn], 0),
  (122, [.iload 1, .iload 2, .if_icmp .le 131, .iconst 1, .goto 132], 0),
  (131, [.iconst 0], 132),
  (132, [.ireturn], 0),
  (133, [.iload 1, .iload 2, .iand, .ireturn], 0),
  (137, [.iload 1, .iload 2, .ior, .ireturn], 0)]
/-- 29: GriefWood$Law.held(II)I -/
def mb_29 : List (Nat × List Instr × Nat) := [(0, [.iload 0, .lookupswitch 54 #[(10010, 28), (10011, 42)]], 0),
  (28, [.iconst (-9999), .iload 1, .iconst 9999, .d2i, .d2f, .ireturn], 0),
  (42, [.iconst 0, .iload 1, .iconst 1000, .d2i, .d2f, .ireturn], 0),
  (54, [.iconst 0, .iload 1, .iconst 999, .d2i, .d2f, .ireturn], 0)]
/-- 30: GriefWood$Law.untold(I)I -/
def mb_30 : List (Nat × List Instr × Nat) := [(0, [.iload 1, .lookupswitch 81 #[(10010, 28), (10011, 61)]], 0),
  (28, [.aload 0, .instanceof 263, .iconst 3, .iaload, .aload 0, .instanceof 263, .iconst 0, .iaload, .imul, .iconst 10, .aload 0, .instanceof 263, .iconst 1, .iaload, .imul, .isub, .iconst 5, .aload 0, .instanceof 263, .iconst 2, .iaload, .imul, .iadd, .ireturn], 0),
  (61, [.iconst 10, .aload 0, .instanceof 263, .iconst 0, .iaload, .imul, .iconst 100, .aload 0, .instanceof 263, .iconst 1, .iaload, .imul, .isub, .ireturn], 0),
  (81, [.aload 0, .instanceof 263, .iconst 3, .iaload, .ireturn], 0)]
/-- 31: GriefWood$Scene.drawOf(I)I -/
def mb_31 : List (Nat × List Instr × Nat) := [(0, [.aload 0, .iconst 1664525, .aload 0, .getfield 781, .imul, .iconst 1013904223, .iadd, .putfield 781, .aload 0, .getfield 781, .iconst 8, .iushr, .iload 1, .iconst 1, .d2f, .irem, .ireturn], 0)]
/-- 32: GriefWood$Whole.dig(LGriefWood$Scene;I)I -/
def mb_32 : List (Nat × List Instr × Nat) := [(0, [.aload 1, .instanceof 773, .iload 2, .iaload, .istore 3, .aload 1, .instanceof 776, .iload 2, .dup2, .iaload, .iconst 1, .iadd, .iastore, .aload 1, .instanceof 771, .iload 3, .dup2, .iaload, .iconst 1, .iadd, .iastore, .aload 1, .instanceof 770, .iload 3, .iaload, .istore 4, .iload 4, .ifCond .ne 50, .aload 0, .aload 1, .iconst 1, .iload 2, .iload 3, .invokeinterface 33 2010, .iconst 0, .ireturn], 0),
  (50, [.aload 1, .dup, .getfield 779, .aload 0, .instanceof 129, .iconst 10012, .aload 1, .iload 2, .iload 3, .invokeinterface 24 3011, .iadd, .putfield 779, .aload 1, .instanceof 775, .iload 2, .dup2, .iaload, .iload 4, .iadd, .iastore, .aload 1, .dup, .getfield 778, .iload 4, .iadd, .putfield 778, .aload 1, .instanceof 770, .iload 3, .iconst 0, .iastore, .aload 0, .aload 1, .iconst 0, .iload 2, .iload 4, .invokeinterface 33 2010, .iload 4, .ireturn], 0)]
/-- 33: GriefWood$Whole.write(LGriefWood$Scene;III)V -/
def mb_33 : List (Nat × List Instr × Nat) := [(0, [.aload 1, .getfield 768, .ifCond .ne 17, .aload 1, .getfield 782, .iconst 150, .if_icmp .lt 18], 17),
  (17, [.return_], 0),
  (18, [.iconst 4, .aload 1, .getfield 782, .imul, .istore 5, .aload 0, .instanceof 134, .iload 5, .aload 1, .getfield 780, .iastore, .aload 0, .instanceof 134, .iload 5, .iconst 1, .iadd, .iload 2, .iastore, .aload 0, .instanceof 134, .iload 5, .iconst 2, .iadd, .iload 3, .iastore, .aload 0, .instanceof 134, .iload 5, .iconst 3, .iadd, .iload 4, .iastore, .aload 1, .dup, .getfield 782, .iconst 1, .iadd, .putfield 782, .return_], 0)]
/-- 34: GriefWood.mornings(I)I -/
def mb_34 : List (Nat × List Instr × Nat) := [(0, [.iload 1, .iconst 1, .iconst 60, .invokeinterface 14 7, .ifCond .eq 28, .aload 0, .instanceof 0, .instanceof 128, .getfield 780, .iload 1, .iadd, .iconst 9999, .if_icmp .le 30], 28),
  (28, [.iconst (-1), .ireturn], 0),
  (30, [.iconst 0, .istore 2, .iconst 0, .istore 3], 34),
  (34, [.iload 3, .iload 1, .if_icmp .ge 66, .aload 0, .invokeinterface 19 1002, .iload 2, .aload 0, .instanceof 0, .aload 0, .instanceof 0, .instanceof 128, .invokeinterface 35 2005, .iadd, .istore 2, .iinc 3 1, .goto 34], 0),
  (66, [.iload 2, .ireturn], 0)]
/-- 35: GriefWood$Whole.passMorning(LGriefWood$Scene;)I -/
def mb_35 : List (Nat × List Instr × Nat) := [(0, [.iconst 0, .istore 2, .iconst 0, .istore 3], 4),
  (4, [.iload 3, .aload 0, .instanceof 130, .getfield 390, .if_icmp .ge 62, .aload 0, .instanceof 130, .instanceof 384, .iload 3, .iaload, .aload 1, .getfield 780, .if_icmp .ne 56, .aload 0, .instanceof 130, .instanceof 385, .iload 3, .iaload, .aload 1, .getfield 777, .if_icmp .ge 56, .iload 2, .aload 0, .aload 1, .iload 3, .invokeinterface 36 2007, .iadd, .istore 2], 56),
  (56, [.iinc 3 1, .goto 4], 0),
  (62, [.iconst 0, .istore 3], 64),
  (64, [.iload 3, .aload 0, .instanceof 131, .getfield 390, .if_icmp .ge 165, .aload 0, .instanceof 131, .instanceof 384, .iload 3, .iaload, .aload 1, .getfield 780, .if_icmp .ne 159, .aload 1, .getfield 778, .aload 0, .instanceof 131, .instanceof 387, .iload 3, .iaload, .if_icmp .lt 159, .aload 1, .dup, .getfield 778, .aload 0, .instanceof 131, .instanceof 387, .iload 3, .iaload, .isub, .putfield 778, .aload 1, .dup, .getfield 779, .aload 0, .instanceof 131, .instanceof 388, .iload 3, .iaload, .iadd], 140),
  (140, [.putfield 779, .aload 0, .aload 1, .iconst 2, .iconst (-1), .aload 0, .instanceof 131, .instanceof 388, .iload 3, .iaload, .invokeinterface 33 2010], 159),
  (159, [.iinc 3 1, .goto 64], 0),
  (165, [.aload 1, .dup, .getfield 780, .iconst 1, .iadd, .putfield 780, .iload 2, .ireturn], 0)]
/-- 36: GriefWood$Whole.follow(LGriefWood$Scene;I)I -/
def mb_36 : List (Nat × List Instr × Nat) := [(0, [.aload 0, .instanceof 130, .instanceof 385, .iload 2, .iaload, .istore 3, .aload 0, .instanceof 130, .instanceof 387, .iload 2, .iaload, .istore 4, .iconst 0, .istore 5, .aload 0, .instanceof 130, .instanceof 386, .iload 2, .iaload, .lookupswitch 135 #[(10002, 60), (10003, 90), (10004, 113)]], 0),
  (60, [.iconst 0, .istore 6], 63),
  (63, [.iload 6, .iload 4, .if_icmp .ge 87, .iload 5, .aload 0, .aload 1, .iload 3, .invokeinterface 21 2007, .iadd, .istore 5, .iinc 6 1, .goto 63], 0),
  (87, [.goto 156], 0),
  (90, [.aload 1, .instanceof 774, .iload 3, .aload 1, .instanceof 774, .iload 3, .iaload, .iload 4, .iadd, .iconst 9, .d2i, .iastore, .goto 156], 0),
  (113, [.aload 1, .instanceof 774, .iload 3, .aload 1, .instanceof 774, .iload 3, .iaload, .iload 4, .isub, .iconst 0, .d2f, .iastore, .goto 156], 0),
  (135, [.aload 1, .instanceof 773, .iload 3, .iconst 8, .aload 0, .instanceof 130, .instanceof 388, .iload 2, .iaload, .imul, .iload 4, .iadd, .iastore], 156),
  (156, [.iload 5, .ireturn], 0)]
/-- 37: GriefWood.feed(IIIII)I -/
def mb_37 : List (Nat × List Instr × Nat) := [(0, [.aload 0, .getfield 8, .iconst 20, .iadd, .iconst 400, .if_icmp .le 15, .iconst (-1), .ireturn], 0),
  (15, [.aload 0, .iload 1, .invokeinterface 38 1004, .aload 0, .iload 2, .invokeinterface 38 1004, .aload 0, .iload 3, .invokeinterface 38 1004, .aload 0, .iload 4, .invokeinterface 38 1004, .aload 0, .iload 5, .invokeinterface 38 1004, .aload 0, .getfield 8, .ireturn], 0)]
/-- 38: GriefWood.feedOne(I)V -/
def mb_38 : List (Nat × List Instr × Nat) := [(0, [.iconst 24, .istore 2], 3),
  (3, [.iload 2, .ifCond .lt 50, .aload 0, .getfield 8, .iconst 400, .if_icmp .ge 50, .aload 0, .instanceof 7, .aload 0, .getfield 8, .iload 1, .iload 2, .iushr, .iconst 255, .iand, .i2c, .castore, .aload 0, .dup, .getfield 8, .iconst 1, .iadd, .putfield 8, .iinc 2 (-8), .goto 3], 0),
  (50, [.return_], 0)]
/-- 39: GriefWood.end(I)Z -/
def mb_39 : List (Nat × List Instr × Nat) := [(0, [.iload 1, .iconst 0, .aload 0, .getfield 8, .invokeinterface 14 7, .ifCond .ne 14, .iconst 0, .freturn], 0),
  (14, [.aload 0, .iload 1, .putfield 8, .iconst 1, .freturn], 0)]
/-- 40: GriefWood.text(I)I -/
def mb_40 : List (Nat × List Instr × Nat) := [(0, [.aload 0, .getfield 8, .istore 2, .aload 0, .iconst 0, .putfield 8, .aload 0, .iconst 0, .putfield 11, .aload 0, .iconst (-1), .putfield 12, .iload 1, .iconst 0, .iconst 3, .invokeinterface 14 7, .ifCond .ne 31, .iconst (-1), .ireturn], 0),
  (31, [.aload 0, .instanceof 9, .instanceof 1024, .astore 3, .iload 1, .ifCond .ne 64, .aload 3, .aload 0, .instanceof 7, .iload 2, .ldc 3, .invokeinterface 41 10008, .aload 0, .instanceof 9, .invokeinterface 60 9002, .goto 94], 0),
  (64, [.aload 3, .aload 0, .instanceof 7, .iload 2, .ldc 4, .invokeinterface 41 10008, .aload 0, .instanceof 10, .aload 3, .iload 1, .aload 0, .instanceof 0, .instanceof 128, .getfield 777, .invokeinterface 79 4008], 94),
  (94, [.aload 0, .aload 3, .getfield 1156, .putfield 11, .aload 0, .aload 3, .getfield 1157, .putfield 12, .aload 0, .getfield 11, .ifCond .ne 125, .aload 0, .iload 1, .invokeinterface 84 1005, .goto 126], 0),
  (125, [.iconst (-1)], 126),
  (126, [.ireturn], 0)]
/-- 41: GriefWood$Tokens.split([CILjava/lang/String;)V -/
def mb_41 : List (Nat × List Instr × Nat) := [(0, [.aload 0, .iconst 0, .putfield 1154, .aload 0, .iconst 0, .putfield 1155, .aload 0, .iconst 0, .putfield 1156, .aload 0, .iconst (-1), .putfield 1157, .iconst 0, .istore 4], 23),
  (23, [.iload 4, .iload 2, .if_icmp .ge 95, .iload 4, .aload 1, .arraylength, .if_icmp .ge 95, .aload 1, .iload 4, .caload, .iconst 32, .if_icmp .eq 89, .aload 1, .iload 4, .caload, .iconst 10, .if_icmp .eq 89, .aload 1, .iload 4, .iload 2, .invokeinterface 42 7, .istore 5, .aload 0, .aload 1, .iload 4, .iload 5, .aload 3, .invokeinterface 44 9, .iload 4, .invokeinterface 59 10006, .iload 4, .iload 5, .iconst 1, .isub, .d2f, .istore 4], 89),
  (89, [.iinc 4 1, .goto 23], 0),
  (95, [.aload 0, .iconst 30000, .iload 2, .invokeinterface 59 10006, .return_], 0)]
/-- 42: GriefWood$Tokens.behindToken([CII)I -/
def mb_42 : List (Nat × List Instr × Nat) := [(0, [.aload 0, .iload 1, .caload, .invokeinterface 43 3, .istore 3, .iload 1, .iconst 1, .iadd, .istore 4], 12),
  (12, [.iload 3, .ifCond .eq 46, .iload 4, .iload 2, .if_icmp .ge 46, .iload 4, .aload 0, .arraylength, .if_icmp .ge 46, .aload 0, .iload 4, .caload, .invokeinterface 43 3, .iload 3, .if_icmp .ne 46, .iinc 4 1, .goto 12], 0),
  (46, [.iload 4, .ireturn], 0)]
/-- 43: GriefWood$Tokens.kindOf(C)I -/
def mb_43 : List (Nat × List Instr × Nat) := [(0, [.iload 0, .iconst 97, .if_icmp .lt 12, .iload 0, .iconst 122, .if_icmp .le 24], 12),
  (12, [.iload 0, .iconst 65, .if_icmp .lt 26, .iload 0, .iconst 90, .if_icmp .gt 26], 24),
  (24, [.iconst 1, .ireturn], 0),
  (26, [.iload 0, .iconst 48, .if_icmp .lt 42, .iload 0, .iconst 57, .if_icmp .gt 42, .iconst 2, .goto 43], 0),
  (42, [.iconst 0], 43),
  (43, [.ireturn], 0)]
/-- 44: GriefWood$Tokens.tokenOf([CIILjava/lang/String;)I -/
def mb_44 : List (Nat × List Instr × Nat) := [(0, [.aload 0, .iload 1, .caload, .invokeinterface 43 3, .istore 4, .iload 4, .iconst 1, .if_icmp .ne 42, .aload 3, .aload 0, .iload 1, .iload 2, .invokeinterface 45 9, .istore 5, .iload 5, .iconst (-1), .if_icmp .ne 35, .iconst 30001, .goto 41], 0),
  (35, [.iconst 10000, .iload 5, .iadd], 41),
  (41, [.ireturn], 0),
  (42, [.iload 4, .ifCond .ne 72, .ldc 5, .aload 0, .iload 1, .caload, .invokeinterface 54 51005, .ifCond .lt 68, .iconst 20000, .aload 0, .iload 1, .caload, .iadd, .goto 71], 0),
  (68, [.iconst 30001], 71),
  (71, [.ireturn], 0),
  (72, [.iload 2, .iload 1, .isub, .iconst 4, .if_icmp .le 83, .iconst 30001, .ireturn], 0),
  (83, [.iconst 0, .istore 5, .iload 1, .istore 6], 89),
  (89, [.iload 6, .iload 2, .if_icmp .ge 116, .iconst 10, .iload 5, .imul, .aload 0, .iload 6, .caload, .iadd, .iconst 48, .isub, .istore 5, .iinc 6 1, .goto 89], 0),
  (116, [.iload 5, .ireturn], 0)]
/-- 45: GriefWood$Tokens.keyword(Ljava/lang/String;[CII)I -/
def mb_45 : List (Nat × List Instr × Nat) := [(0, [.iconst 0, .istore 4, .iconst 0, .istore 5, .iconst 0, .istore 6], 9),
  (9, [.iload 6, .aload 0, .invokeinterface 46 51003, .if_icmp .gt 73, .iload 6, .aload 0, .invokeinterface 46 51003, .if_icmp .eq 38, .aload 0, .iload 6, .invokeinterface 48 51005, .iconst 32, .if_icmp .ne 67], 38),
  (38, [.aload 0, .iload 5, .iload 6, .iload 5, .isub, .aload 1, .iload 2, .iload 3, .invokeinterface 53 13, .ifCond .eq 58, .iload 4, .ireturn], 0),
  (58, [.iinc 4 1, .iload 6, .iconst 1, .iadd, .istore 5], 67),
  (67, [.iinc 6 1, .goto 9], 0),
  (73, [.iconst (-1), .ireturn], 0)]
/-- 46: java/lang/String.length()I -/
def mb_46 : List (Nat × List Instr × Nat) := [(0, [.aload 0, .instanceof 6400, .arraylength, .aload 0, .invokeinterface 47 51003, .ishr, .ireturn], 0)]
/-- 47: java/lang/String.coder()B -/
def mb_47 : List (Nat × List Instr × Nat) := [(0, [.iconst 1, .ifCond .eq 13, .aload 0, .getfield 6401, .goto 14], 0),
  (13, [.iconst 1], 14),
  (14, [.areturn], 0)]
/-- 48: java/lang/String.charAt(I)C -/
def mb_48 : List (Nat × List Instr × Nat) := [(0, [.aload 0, .invokeinterface 49 51003, .ifCond .eq 16, .aload 0, .instanceof 6400, .iload 1, .invokeinterface 50 5, .dreturn], 0)]
/-- 49: java/lang/String.isLatin1()Z -/
def mb_49 : List (Nat × List Instr × Nat) := [(0, [.iconst 1, .ifCond .eq 17, .aload 0, .getfield 6401, .ifCond .ne 17, .iconst 1, .goto 18], 0),
  (17, [.iconst 0], 18),
  (18, [.freturn], 0)]
/-- 50: java/lang/StringLatin1.charAt([BI)C -/
def mb_50 : List (Nat × List Instr × Nat) := [(0, [.iload 1, .aload 0, .arraylength, .invokeinterface 51 4, .aload 0, .iload 1, .baload, .iconst 255, .iand, .i2c, .dreturn], 0)]
/-- 51: java/lang/String.checkIndex(II)V -/
def mb_51 : List (Nat × List Instr × Nat) := [(0, [.iload 0, .iload 1, .ldc 9, .invokeinterface 52 7, .pop, .return_], 0)]
/-- 52: jdk/internal/util/Preconditions.checkIndex(IILjava/util/function/BiFunction;)I -/
def mb_52 : List (Nat × List Instr × Nat) := [(0, [.iload 0, .ifCond .lt 9, .iload 0, .iload 1, .if_icmp .lt 16], 9),
  (16, [.iload 0, .ireturn], 0)]
/-- 53: GriefWood$Tokens.isThere(Ljava/lang/String;II[CII)Z -/
def mb_53 : List (Nat × List Instr × Nat) := [(0, [.iload 2, .iload 5, .iload 4, .isub, .if_icmp .eq 11, .iconst 0, .freturn], 0),
  (11, [.iconst 0, .istore 6], 14),
  (14, [.iload 6, .iload 2, .if_icmp .ge 46, .aload 0, .iload 1, .iload 6, .iadd, .invokeinterface 48 51005, .aload 3, .iload 4, .iload 6, .iadd, .caload, .if_icmp .eq 40, .iconst 0, .freturn], 0),
  (40, [.iinc 6 1, .goto 14], 0),
  (46, [.iconst 1, .freturn], 0)]
/-- 54: java/lang/String.indexOf(I)I -/
def mb_54 : List (Nat × List Instr × Nat) := [(0, [.aload 0, .iload 1, .iconst 0, .invokeinterface 55 51007, .ireturn], 0)]
/-- 55: java/lang/String.indexOf(II)I -/
def mb_55 : List (Nat × List Instr × Nat) := [(0, [.aload 0, .invokeinterface 49 51003, .ifCond .eq 23, .aload 0, .instanceof 6400, .iload 1, .iload 2, .aload 0, .invokeinterface 46 51003, .invokeinterface 56 9, .goto 36], 0),
  (36, [.ireturn], 0)]
/-- 56: java/lang/StringLatin1.indexOf([BIII)I -/
def mb_56 : List (Nat × List Instr × Nat) := [(0, [.iload 1, .invokeinterface 57 3, .ifCond .ne 9, .iconst (-1), .ireturn], 0),
  (9, [.iload 2, .iconst 0, .d2f, .istore 2, .iload 3, .aload 0, .arraylength, .d2i, .istore 3, .iload 2, .iload 3, .if_icmp .lt 29, .iconst (-1), .ireturn], 0),
  (29, [.aload 0, .iload 1, .iload 2, .iload 3, .invokeinterface 58 9, .ireturn], 0)]
/-- 57: java/lang/StringLatin1.canEncode(I)Z -/
def mb_57 : List (Nat × List Instr × Nat) := [(0, [.iload 0, .ifCond .lt 15, .iload 0, .iconst 255, .if_icmp .gt 15, .iconst 1, .goto 16], 0),
  (15, [.iconst 0], 16),
  (16, [.freturn], 0)]
/-- 58: java/lang/StringLatin1.indexOfChar([BIII)I -/
def mb_58 : List (Nat × List Instr × Nat) := [(0, [.iload 1, .i2b, .istore 4, .iload 2, .istore 5], 7),
  (7, [.iload 5, .iload 3, .if_icmp .ge 31, .aload 0, .iload 5, .baload, .iload 4, .if_icmp .ne 25, .iload 5, .ireturn], 0),
  (25, [.iinc 5 1, .goto 7], 0),
  (31, [.iconst (-1), .ireturn], 0)]
/-- 59: GriefWood$Tokens.put(II)V -/
def mb_59 : List (Nat × List Instr × Nat) := [(0, [.aload 0, .getfield 1154, .aload 0, .instanceof 1152, .arraylength, .if_icmp .ge 42, .aload 0, .instanceof 1152, .aload 0, .getfield 1154, .iload 1, .iastore, .aload 0, .instanceof 1153, .aload 0, .getfield 1154, .iload 2, .iastore, .aload 0, .dup, .getfield 1154, .iconst 1, .iadd, .putfield 1154], 42),
  (42, [.return_], 0)]
/-- 60: GriefWood$LawReader.readAll()V -/
def mb_60 : List (Nat × List Instr × Nat) := [(0, [.aload 0, .instanceof 1025, .iconst 0, .putfield 261, .aload 0, .instanceof 1025, .iconst 0, .putfield 262, .iconst 0, .istore 1], 18),
  (18, [.iload 1, .iconst 16, .if_icmp .gt 95, .aload 0, .instanceof 1024, .invokeinterface 61 10003, .ifCond .eq 95, .aload 0, .instanceof 1024, .invokeinterface 62 10003, .istore 2, .iload 2, .iconst 10010, .iconst 10012, .invokeinterface 14 7, .ifCond .ne 66, .aload 0, .instanceof 1024, .iconst 1, .invokeinterface 63 10004, .goto 89], 0),
  (66, [.iload 1, .iconst 16, .if_icmp .ne 83, .aload 0, .instanceof 1024, .iconst 3, .invokeinterface 63 10004, .goto 89], 0),
  (83, [.aload 0, .iload 1, .iload 2, .invokeinterface 64 9006], 89),
  (89, [.iinc 1 1, .goto 18], 0),
  (95, [.return_], 0)]
/-- 61: GriefWood$Tokens.goOn()Z -/
def mb_61 : List (Nat × List Instr × Nat) := [(0, [.aload 0, .getfield 1156, .ifCond .ne 21, .aload 0, .invokeinterface 62 10003, .iconst 30000, .if_icmp .eq 21, .iconst 1, .goto 22], 0),
  (21, [.iconst 0], 22),
  (22, [.freturn], 0)]
/-- 62: GriefWood$Tokens.next()I -/
def mb_62 : List (Nat × List Instr × Nat) := [(0, [.aload 0, .getfield 1155, .aload 0, .getfield 1154, .if_icmp .ge 23, .aload 0, .instanceof 1152, .aload 0, .getfield 1155, .iaload, .goto 26], 0),
  (23, [.iconst 30000], 26),
  (26, [.ireturn], 0)]
/-- 63: GriefWood$Tokens.refuse(I)V -/
def mb_63 : List (Nat × List Instr × Nat) := [(0, [.aload 0, .getfield 1156, .ifCond .ne 40, .aload 0, .iload 1, .putfield 1156, .aload 0, .aload 0, .getfield 1155, .aload 0, .getfield 1154, .if_icmp .ge 36, .aload 0, .instanceof 1153, .aload 0, .getfield 1155, .iaload, .goto 37], 0),
  (36, [.iconst (-1)], 37),
  (37, [.putfield 1157], 40),
  (40, [.return_], 0)]
/-- 64: GriefWood$LawReader.readLine(II)V -/
def mb_64 : List (Nat × List Instr × Nat) := [(0, [.aload 0, .instanceof 1024, .iload 2, .invokeinterface 65 10005, .pop, .aload 0, .instanceof 1025, .instanceof 257, .iload 1, .iload 2, .iastore, .aload 0, .instanceof 1025, .instanceof 258, .iload 1, .aload 0, .instanceof 1025, .getfield 262, .iastore, .aload 0, .invokeinterface 66 9002, .aload 0, .instanceof 1025, .instanceof 259, .iload 1, .aload 0, .instanceof 1025, .getfield 262, .iastore, .aload 0, .instanceof 1024, .iconst 10013, .invokeinterface 65 10005, .ifCond .eq 72, .aload 0, .invokeinterface 70 9002], 72),
  (72, [.aload 0, .instanceof 1025, .instanceof 260, .iload 1, .aload 0, .instanceof 1025, .getfield 262, .iastore, .aload 0, .instanceof 1024, .iconst 20059, .invokeinterface 74 10004, .aload 0, .instanceof 1025, .iload 1, .iconst 1, .iadd, .putfield 261, .return_], 0)]
/-- 65: GriefWood$Tokens.take(I)Z -/
def mb_65 : List (Nat × List Instr × Nat) := [(0, [.aload 0, .getfield 1156, .ifCond .ne 31, .aload 0, .getfield 1155, .aload 0, .getfield 1154, .if_icmp .ge 31, .aload 0, .instanceof 1152, .aload 0, .getfield 1155, .iaload, .iload 1, .if_icmp .eq 33], 31),
  (31, [.iconst 0, .freturn], 0),
  (33, [.aload 0, .dup, .getfield 1155, .iconst 1, .iadd, .putfield 1155, .iconst 1, .freturn], 0)]
/-- 66: GriefWood$LawReader.expression()V -/
def mb_66 : List (Nat × List Instr × Nat) := [(0, [.iconst (-1), .istore 1, .aload 0, .invokeinterface 67 9002, .iconst 0, .istore 2], 8),
  (8, [.iload 2, .iconst 400, .if_icmp .ge 158, .aload 0, .instanceof 1024, .invokeinterface 61 10003, .ifCond .eq 158, .aload 0, .instanceof 1024, .invokeinterface 62 10003, .istore 3, .aload 0, .instanceof 1024, .iconst 20042, .invokeinterface 65 10005, .ifCond .eq 63, .aload 0, .invokeinterface 67 9002, .aload 0, .instanceof 1025, .iconst 20042, .invokeinterface 68 3004, .goto 152], 0),
  (63, [.aload 0, .instanceof 1024, .iconst 20047, .invokeinterface 65 10005, .ifCond .eq 107, .aload 0, .instanceof 1025, .aload 0, .instanceof 1024, .iconst 1, .iconst 9999, .invokeinterface 69 10007, .invokeinterface 68 3004, .aload 0, .instanceof 1025, .iconst 20047, .invokeinterface 68 3004, .goto 152], 0),
  (107, [.aload 0, .instanceof 1024, .iconst 20043, .invokeinterface 65 10005, .ifCond .ne 133, .aload 0, .instanceof 1024, .iconst 20045, .invokeinterface 65 10005, .ifCond .eq 158], 133),
  (133, [.iload 1, .iconst (-1), .if_icmp .eq 146, .aload 0, .instanceof 1025, .iload 1, .invokeinterface 68 3004], 146),
  (146, [.iload 3, .istore 1, .aload 0, .invokeinterface 67 9002], 152),
  (152, [.iinc 2 1, .goto 8], 0),
  (158, [.iload 1, .iconst (-1), .if_icmp .eq 171, .aload 0, .instanceof 1025, .iload 1, .invokeinterface 68 3004], 171),
  (171, [.return_], 0)]
/-- 67: GriefWood$LawReader.operand()V -/
def mb_67 : List (Nat × List Instr × Nat) := [(0, [.aload 0, .instanceof 1024, .invokeinterface 62 10003, .istore 1, .iload 1, .invokeinterface 27 3, .ifCond .eq 37, .aload 0, .instanceof 1024, .iload 1, .invokeinterface 65 10005, .ifCond .eq 37, .aload 0, .instanceof 1025, .iload 1, .invokeinterface 68 3004, .goto 45], 0),
  (37, [.aload 0, .instanceof 1024, .iconst 1, .invokeinterface 63 10004], 45),
  (45, [.return_], 0)]
/-- 68: GriefWood$Law.put(I)V -/
def mb_68 : List (Nat × List Instr × Nat) := [(0, [.aload 0, .getfield 262, .aload 0, .instanceof 256, .arraylength, .if_icmp .ge 32, .aload 0, .instanceof 256, .aload 0, .getfield 262, .iload 1, .iastore, .aload 0, .dup, .getfield 262, .iconst 1, .iadd, .putfield 262], 32),
  (32, [.return_], 0)]
/-- 69: GriefWood$Tokens.number(II)I -/
def mb_69 : List (Nat × List Instr × Nat) := [(0, [.aload 0, .invokeinterface 62 10003, .istore 3, .iload 3, .iconst 10000, .if_icmp .lt 20, .aload 0, .iconst 1, .invokeinterface 63 10004, .goto 56], 0),
  (20, [.iload 3, .iload 1, .iload 2, .invokeinterface 14 7, .ifCond .ne 37, .aload 0, .iconst 2, .invokeinterface 63 10004, .goto 56], 0),
  (37, [.aload 0, .getfield 1156, .ifCond .ne 56, .aload 0, .dup, .getfield 1155, .iconst 1, .iadd, .putfield 1155, .iload 3, .ireturn], 0),
  (56, [.iload 1, .ireturn], 0)]
/-- 70: GriefWood$LawReader.condition()V -/
def mb_70 : List (Nat × List Instr × Nat) := [(0, [.aload 0, .iconst 0, .putfield 1027, .aload 0, .iconst 0, .putfield 1028, .aload 0, .iconst 0, .putfield 1029, .iconst 1, .istore 1, .iconst 0, .istore 2], 19),
  (19, [.iload 2, .iconst 400, .if_icmp .ge 70, .iload 1, .ifCond .eq 70, .aload 0, .invokeinterface 71 9002, .aload 0, .invokeinterface 66 9002, .aload 0, .invokeinterface 73 9003, .istore 3, .aload 0, .invokeinterface 66 9002, .aload 0, .instanceof 1025, .iload 3, .invokeinterface 68 3004, .aload 0, .invokeinterface 75 9002, .aload 0, .invokeinterface 78 9003, .istore 1, .iinc 2 1, .goto 19], 0),
  (70, [.aload 0, .getfield 1029, .ifCond .le 85, .aload 0, .instanceof 1024, .iconst 1, .invokeinterface 63 10004], 85),
  (85, [.aload 0, .iconst 20040, .iconst 20040, .invokeinterface 77 9006, .return_], 0)]
/-- 71: GriefWood$LawReader.openAll()V -/
def mb_71 : List (Nat × List Instr × Nat) := [(0, [.iconst 0, .istore 1], 2),
  (2, [.iload 1, .iconst 8, .if_icmp .gt 98, .aload 0, .instanceof 1024, .invokeinterface 62 10003, .istore 2, .iload 2, .iconst 20040, .if_icmp .eq 31, .iload 2, .iconst 10016, .if_icmp .eq 31, .return_], 0),
  (31, [.aload 0, .getfield 1028, .iconst 8, .if_icmp .ne 48, .aload 0, .instanceof 1024, .iconst 3, .invokeinterface 63 10004], 48),
  (48, [.aload 0, .instanceof 1024, .iload 2, .invokeinterface 65 10005, .ifCond .ne 60, .return_], 0),
  (60, [.aload 0, .dup, .getfield 1028, .iconst 1, .iadd, .putfield 1028, .iload 2, .iconst 20040, .if_icmp .ne 87, .aload 0, .dup, .getfield 1029, .iconst 1, .iadd, .putfield 1029], 87),
  (87, [.aload 0, .iload 2, .invokeinterface 72 9004, .iinc 1 1, .goto 2], 0),
  (98, [.return_], 0)]
/-- 72: GriefWood$LawReader.hold(I)V -/
def mb_72 : List (Nat × List Instr × Nat) := [(0, [.aload 0, .getfield 1027, .aload 0, .instanceof 1026, .arraylength, .if_icmp .ge 32, .aload 0, .instanceof 1026, .aload 0, .getfield 1027, .iload 1, .iastore, .aload 0, .dup, .getfield 1027, .iconst 1, .iadd, .putfield 1027], 32),
  (32, [.return_], 0)]
/-- 73: GriefWood$LawReader.comparing()I -/
def mb_73 : List (Nat × List Instr × Nat) := [(0, [.aload 0, .instanceof 1024, .invokeinterface 62 10003, .istore 1, .aload 0, .instanceof 1024, .iconst 20060, .invokeinterface 65 10005, .ifCond .ne 44, .aload 0, .instanceof 1024, .iconst 20061, .invokeinterface 65 10005, .ifCond .ne 44, .aload 0, .instanceof 1024, .iconst 20062, .invokeinterface 74 10004], 44),
  (44, [.iload 1, .ireturn], 0)]
/-- 74: GriefWood$Tokens.need(I)V -/
def mb_74 : List (Nat × List Instr × Nat) := [(0, [.aload 0, .iload 1, .invokeinterface 65 10005, .ifCond .ne 13, .aload 0, .iconst 1, .invokeinterface 63 10004], 13),
  (13, [.return_], 0)]
/-- 75: GriefWood$LawReader.closeAll()V -/
def mb_75 : List (Nat × List Instr × Nat) := [(0, [.aload 0, .invokeinterface 76 9002, .iconst 0, .istore 1], 6),
  (6, [.iload 1, .iconst 8, .if_icmp .ge 86, .aload 0, .getfield 1029, .ifCond .le 86, .aload 0, .instanceof 1024, .iconst 20041, .invokeinterface 65 10005, .ifCond .eq 86, .aload 0, .iconst 20040, .iconst 20040, .invokeinterface 77 9006, .aload 0, .aload 0, .getfield 1027, .iconst 1, .isub, .iconst 0, .d2f, .putfield 1027, .aload 0, .dup, .getfield 1028, .iconst 1, .isub, .putfield 1028, .aload 0, .dup, .getfield 1029, .iconst 1, .isub, .putfield 1029, .aload 0, .invokeinterface 76 9002, .iinc 1 1, .goto 6], 0),
  (86, [.return_], 0)]
/-- 76: GriefWood$LawReader.settleNots()V -/
def mb_76 : List (Nat × List Instr × Nat) := [(0, [.aload 0, .getfield 1027, .ifCond .le 57, .aload 0, .instanceof 1026, .aload 0, .getfield 1027, .iconst 1, .isub, .iaload, .iconst 10016, .if_icmp .ne 57, .aload 0, .dup, .getfield 1027, .iconst 1, .isub, .putfield 1027, .aload 0, .dup, .getfield 1028, .iconst 1, .isub, .putfield 1028, .aload 0, .instanceof 1025, .iconst 10016, .invokeinterface 68 3004, .goto 0], 0),
  (57, [.return_], 0)]
/-- 77: GriefWood$LawReader.settle(II)V -/
def mb_77 : List (Nat × List Instr × Nat) := [(0, [.aload 0, .getfield 1027, .ifCond .le 66, .aload 0, .instanceof 1026, .aload 0, .getfield 1027, .iconst 1, .isub, .iaload, .iload 1, .if_icmp .eq 66, .aload 0, .instanceof 1026, .aload 0, .getfield 1027, .iconst 1, .isub, .iaload, .iload 2, .if_icmp .eq 66, .aload 0, .dup, .getfield 1027, .iconst 1, .isub, .putfield 1027, .aload 0, .instanceof 1025, .aload 0, .instanceof 1026, .aload 0, .getfield 1027, .iaload, .invokeinterface 68 3004, .goto 0], 0),
  (66, [.return_], 0)]
/-- 78: GriefWood$LawReader.joins()Z -/
def mb_78 : List (Nat × List Instr × Nat) := [(0, [.aload 0, .instanceof 1024, .iconst 10015, .invokeinterface 65 10005, .ifCond .eq 32, .aload 0, .iconst 20040, .iconst 10014, .invokeinterface 77 9006, .aload 0, .iconst 10015, .invokeinterface 72 9004, .iconst 1, .freturn], 0),
  (32, [.aload 0, .instanceof 1024, .iconst 10014, .invokeinterface 65 10005, .ifCond .eq 64, .aload 0, .iconst 20040, .iconst 20040, .invokeinterface 77 9006, .aload 0, .iconst 10014, .invokeinterface 72 9004, .iconst 1, .freturn], 0),
  (64, [.iconst 0, .freturn], 0)]
/-- 79: GriefWood$Lines.readAll(LGriefWood$Tokens;II)V -/
def mb_79 : List (Nat × List Instr × Nat) := [(0, [.iload 2, .iconst 2, .if_icmp .ne 11, .iconst 10006, .goto 14], 0),
  (11, [.iconst 10000], 14),
  (14, [.istore 4, .aload 0, .iconst 0, .putfield 390, .iconst 0, .istore 5], 24),
  (24, [.iload 5, .iconst 16, .if_icmp .gt 107, .aload 1, .invokeinterface 61 10003, .ifCond .eq 107, .aload 1, .invokeinterface 62 10003, .iload 4, .if_icmp .eq 55, .aload 1, .iconst 1, .invokeinterface 63 10004, .goto 101], 0),
  (55, [.iload 5, .iconst 16, .if_icmp .ne 70, .aload 1, .iconst 3, .invokeinterface 63 10004, .goto 101], 0),
  (70, [.aload 1, .iload 4, .invokeinterface 65 10005, .pop, .aload 0, .aload 1, .iload 5, .iload 2, .iload 3, .invokeinterface 80 4010, .aload 1, .iconst 20059, .invokeinterface 74 10004, .aload 0, .iload 5, .iconst 1, .iadd, .putfield 390], 101),
  (101, [.iinc 5 1, .goto 24], 0),
  (107, [.return_], 0)]
/-- 80: GriefWood$Lines.readLine(LGriefWood$Tokens;III)V -/
def mb_80 : List (Nat × List Instr × Nat) := [(0, [.iload 3, .iconst 1, .if_icmp .ne 16, .aload 0, .aload 1, .iload 2, .iload 4, .invokeinterface 81 4008, .goto 36], 0),
  (16, [.iload 3, .iconst 2, .if_icmp .ne 30, .aload 0, .aload 1, .iload 2, .invokeinterface 82 4006, .goto 36], 0),
  (30, [.aload 0, .aload 1, .iload 2, .invokeinterface 83 4006], 36),
  (36, [.return_], 0)]
/-- 81: GriefWood$Lines.readMorning(LGriefWood$Tokens;II)V -/
def mb_81 : List (Nat × List Instr × Nat) := [(0, [.aload 0, .instanceof 384, .iload 2, .aload 1, .iconst 0, .iconst 999, .invokeinterface 69 10007, .iastore, .aload 1, .iconst 10001, .invokeinterface 74 10004, .aload 0, .instanceof 385, .iload 2, .aload 1, .iconst 0, .iload 3, .iconst 1, .isub, .invokeinterface 69 10007, .iastore, .aload 0, .instanceof 386, .iload 2, .aload 1, .invokeinterface 62 10003, .iastore, .aload 1, .iconst 10002, .invokeinterface 65 10005, .ifCond .eq 71, .aload 0, .instanceof 387, .iload 2, .aload 1, .iconst 1, .iconst 20, .invokeinterface 69 10007, .iastore, .goto 140], 0),
  (71, [.aload 1, .iconst 10003, .invokeinterface 65 10005, .ifCond .ne 91, .aload 1, .iconst 10004, .invokeinterface 65 10005, .ifCond .eq 107], 91),
  (91, [.aload 0, .instanceof 387, .iload 2, .aload 1, .iconst 1, .iconst 9, .invokeinterface 69 10007, .iastore, .goto 140], 0),
  (107, [.aload 1, .iconst 10005, .invokeinterface 74 10004, .aload 0, .instanceof 387, .iload 2, .aload 1, .iconst 0, .iconst 7, .invokeinterface 69 10007, .iastore, .aload 0, .instanceof 388, .iload 2, .aload 1, .iconst 0, .iconst 7, .invokeinterface 69 10007, .iastore], 140),
  (140, [.return_], 0)]
/-- 82: GriefWood$Lines.readCell(LGriefWood$Tokens;I)V -/
def mb_82 : List (Nat × List Instr × Nat) := [(0, [.aload 0, .instanceof 387, .iload 2, .aload 1, .iconst 0, .iconst 7, .invokeinterface 69 10007, .iastore, .aload 0, .instanceof 388, .iload 2, .aload 1, .iconst 0, .iconst 7, .invokeinterface 69 10007, .iastore, .aload 0, .instanceof 386, .iload 2, .aload 1, .invokeinterface 62 10003, .iastore, .aload 1, .iconst 10009, .invokeinterface 65 10005, .ifCond .eq 62, .aload 0, .instanceof 389, .iload 2, .aload 1, .iconst 1, .iconst 9, .invokeinterface 69 10007, .iastore, .goto 79], 0),
  (62, [.aload 1, .iconst 10007, .invokeinterface 65 10005, .ifCond .ne 79, .aload 1, .iconst 10008, .invokeinterface 74 10004], 79),
  (79, [.return_], 0)]
/-- 83: GriefWood$Lines.readTable(LGriefWood$Tokens;I)V -/
def mb_83 : List (Nat × List Instr × Nat) := [(0, [.aload 0, .instanceof 384, .iload 2, .aload 1, .iconst 0, .iconst 999, .invokeinterface 69 10007, .iastore, .aload 1, .iconst 10010, .invokeinterface 74 10004, .aload 0, .instanceof 387, .iload 2, .aload 1, .iconst 1, .iconst 99, .invokeinterface 69 10007, .iastore, .aload 1, .iconst 10011, .invokeinterface 74 10004, .aload 0, .instanceof 388, .iload 2, .aload 1, .iconst 1, .iconst 999, .invokeinterface 69 10007, .iastore, .return_], 0)]
/-- 84: GriefWood.accept(I)I -/
def mb_84 : List (Nat × List Instr × Nat) := [(0, [.iload 1, .ifCond .ne 32, .aload 0, .instanceof 0, .instanceof 129, .aload 0, .instanceof 9, .instanceof 1025, .invokeinterface 85 3004, .aload 0, .instanceof 0, .instanceof 129, .getfield 261, .ireturn], 0),
  (32, [.aload 0, .invokeinterface 12 1002, .iload 1, .iconst 1, .if_icmp .ne 58, .aload 0, .instanceof 0, .instanceof 130, .aload 0, .instanceof 10, .invokeinterface 86 4004, .goto 108], 0),
  (58, [.iload 1, .iconst 3, .if_icmp .ne 80, .aload 0, .instanceof 0, .instanceof 131, .aload 0, .instanceof 10, .invokeinterface 86 4004, .goto 108], 0),
  (80, [.aload 0, .instanceof 0, .instanceof 128, .aload 0, .instanceof 10, .invokeinterface 87 7004, .aload 0, .instanceof 0, .aload 0, .instanceof 10, .getfield 390, .putfield 133], 108),
  (108, [.aload 0, .instanceof 10, .getfield 390, .ireturn], 0)]
/-- 85: GriefWood$Law.copyFrom(LGriefWood$Law;)V -/
def mb_85 : List (Nat × List Instr × Nat) := [(0, [.aload 1, .instanceof 256, .iconst 0, .aload 0, .instanceof 256, .iconst 0, .aload 1, .getfield 262, .dneg, .aload 1, .instanceof 257, .iconst 0, .aload 0, .instanceof 257, .iconst 0, .iconst 16, .dneg, .aload 1, .instanceof 258, .iconst 0, .aload 0, .instanceof 258, .iconst 0, .iconst 16, .dneg, .aload 1, .instanceof 259, .iconst 0, .aload 0, .instanceof 259, .iconst 0, .iconst 16, .dneg, .aload 1, .instanceof 260, .iconst 0, .aload 0, .instanceof 260, .iconst 0, .iconst 16], 74),
  (74, [.dneg, .aload 0, .aload 1, .getfield 261, .putfield 261, .aload 0, .aload 1, .getfield 262, .putfield 262, .return_], 0)]
/-- 86: GriefWood$Lines.copyFrom(LGriefWood$Lines;)V -/
def mb_86 : List (Nat × List Instr × Nat) := [(0, [.aload 1, .instanceof 384, .iconst 0, .aload 0, .instanceof 384, .iconst 0, .iconst 16, .dneg, .aload 1, .instanceof 385, .iconst 0, .aload 0, .instanceof 385, .iconst 0, .iconst 16, .dneg, .aload 1, .instanceof 386, .iconst 0, .aload 0, .instanceof 386, .iconst 0, .iconst 16, .dneg, .aload 1, .instanceof 387, .iconst 0, .aload 0, .instanceof 387, .iconst 0, .iconst 16, .dneg, .aload 1, .instanceof 388, .iconst 0, .aload 0, .instanceof 388, .iconst 0, .iconst 16, .dneg], 75),
  (75, [.aload 1, .instanceof 389, .iconst 0, .aload 0, .instanceof 389, .iconst 0, .iconst 16, .dneg, .aload 0, .aload 1, .getfield 390, .putfield 390, .return_], 0)]
/-- 87: GriefWood$Scene.grow(LGriefWood$Lines;)V -/
def mb_87 : List (Nat × List Instr × Nat) := [(0, [.iconst 0, .istore 2], 2),
  (2, [.iload 2, .aload 1, .getfield 390, .if_icmp .ge 83, .iconst 8, .aload 1, .instanceof 388, .iload 2, .iaload, .imul, .aload 1, .instanceof 387, .iload 2, .iaload, .iadd, .istore 3, .aload 1, .instanceof 386, .iload 2, .iaload, .iconst 10009, .if_icmp .ne 54, .aload 0, .instanceof 770, .iload 3, .aload 1, .instanceof 389, .iload 2, .iaload, .iastore, .goto 77], 0),
  (54, [.aload 0, .instanceof 769, .iload 3, .aload 1, .instanceof 386, .iload 2, .iaload, .iconst 10007, .if_icmp .ne 75, .iconst 1, .goto 76], 0),
  (75, [.iconst 0], 76),
  (76, [.iastore], 77),
  (77, [.iinc 2 1, .goto 2], 0),
  (83, [.return_], 0)]
/-- 88: GriefWood.fault(I)I -/
def mb_88 : List (Nat × List Instr × Nat) := [(0, [.iload 1, .ifCond .ne 9, .aload 0, .getfield 11, .ireturn], 0),
  (9, [.iload 1, .iconst 1, .if_icmp .ne 21, .aload 0, .getfield 12, .goto 22], 0),
  (21, [.iconst (-1)], 22),
  (22, [.ireturn], 0)]
/-- 89: GriefWood.of(III)I -/
def mb_89 : List (Nat × List Instr × Nat) := [(0, [.iload 1, .iload 2, .invokeinterface 15 5, .ifCond .ne 12, .iconst (-10000), .ireturn], 0),
  (12, [.aload 0, .instanceof 0, .instanceof 128, .astore 4, .iconst 8, .iload 2, .imul, .iload 1, .iadd, .istore 5, .iload 3, .lookupswitch 95 #[(0, 60), (1, 69), (2, 78), (3, 87)]], 0),
  (60, [.aload 4, .instanceof 769, .iload 5, .iaload, .ireturn], 0),
  (69, [.aload 4, .instanceof 770, .iload 5, .iaload, .ireturn], 0),
  (78, [.aload 4, .instanceof 771, .iload 5, .iaload, .ireturn], 0),
  (87, [.aload 4, .iload 5, .invokeinterface 90 7005, .ireturn], 0),
  (95, [.aload 0, .iload 5, .iload 3, .invokeinterface 91 1007, .ireturn], 0)]
/-- 90: GriefWood$Scene.whoIsOn(I)I -/
def mb_90 : List (Nat × List Instr × Nat) := [(0, [.iconst 0, .istore 2, .iconst 0, .istore 3], 4),
  (4, [.iload 3, .aload 0, .getfield 777, .if_icmp .ge 34, .aload 0, .instanceof 773, .iload 3, .iaload, .iload 1, .if_icmp .ne 28, .iload 2, .iconst 1, .iload 3, .ishl, .ior, .istore 2], 28),
  (28, [.iinc 3 1, .goto 4], 0),
  (34, [.iload 2, .ireturn], 0)]
/-- 91: GriefWood.toldOf(II)I -/
def mb_91 : List (Nat × List Instr × Nat) := [(0, [.iload 2, .iconst 10, .idiv, .istore 3, .iload 2, .iconst 10, .irem, .istore 4, .iload 3, .iconst 1, .iconst 3, .invokeinterface 14 7, .ifCond .eq 29, .aload 0, .iload 4, .invokeinterface 17 1005, .ifCond .ne 33], 29),
  (29, [.iconst (-10000), .ireturn], 0),
  (33, [.aload 0, .instanceof 0, .instanceof 129, .iconst 10010, .iload 3, .iadd, .iconst 1, .isub, .aload 0, .instanceof 0, .instanceof 128, .iload 4, .iload 1, .invokeinterface 24 3011, .ireturn], 0)]
/-- 92: GriefWood.who(II)I -/
def mb_92 : List (Nat × List Instr × Nat) := [(0, [.aload 0, .iload 1, .invokeinterface 17 1005, .ifCond .ne 10, .iconst (-1), .ireturn], 0),
  (10, [.aload 0, .instanceof 0, .instanceof 128, .astore 3, .iload 2, .lookupswitch 118 #[(0, 60), (1, 67), (2, 77), (3, 87), (4, 94), (5, 101), (6, 108)]], 0),
  (60, [.aload 3, .instanceof 772, .iload 1, .iaload, .ireturn], 0),
  (67, [.aload 3, .instanceof 773, .iload 1, .iaload, .iconst 8, .irem, .ireturn], 0),
  (77, [.aload 3, .instanceof 773, .iload 1, .iaload, .iconst 8, .idiv, .ireturn], 0),
  (87, [.aload 3, .instanceof 774, .iload 1, .iaload, .ireturn], 0),
  (94, [.aload 3, .instanceof 775, .iload 1, .iaload, .ireturn], 0),
  (101, [.aload 3, .instanceof 776, .iload 1, .iaload, .ireturn], 0),
  (108, [.aload 0, .instanceof 0, .aload 3, .iload 1, .invokeinterface 22 2007, .ireturn], 0),
  (118, [.iconst (-1), .ireturn], 0)]
/-- 93: GriefWood.book(II)I -/
def mb_93 : List (Nat × List Instr × Nat) := [(0, [.iload 1, .iconst 0, .aload 0, .instanceof 0, .instanceof 128, .getfield 782, .iconst 1, .isub, .invokeinterface 14 7, .ifCond .eq 29, .iload 2, .iconst 0, .iconst 3, .invokeinterface 14 7, .ifCond .ne 32], 29),
  (29, [.iconst (-2), .ireturn], 0),
  (32, [.aload 0, .instanceof 0, .instanceof 134, .iconst 4, .iload 1, .imul, .iload 2, .iadd, .iaload, .ireturn], 0)]
/-- 94: GriefWood.goes(II)I -/
def mb_94 : List (Nat × List Instr × Nat) := [(0, [.iload 1, .iconst 1, .iconst 60, .invokeinterface 14 7, .ifCond .eq 19, .iload 2, .iconst 0, .iconst 3, .invokeinterface 14 7, .ifCond .ne 21], 19),
  (19, [.iconst (-1), .ireturn], 0),
  (21, [.aload 0, .instanceof 3, .aload 0, .instanceof 0, .instanceof 128, .invokeinterface 20 7004, .iconst 0, .istore 3], 37),
  (37, [.iload 3, .iload 1, .if_icmp .ge 60, .aload 0, .instanceof 0, .aload 0, .instanceof 3, .invokeinterface 35 2005, .pop, .iinc 3 1, .goto 37], 0),
  (60, [.iload 2, .lookupswitch 126 #[(0, 88), (1, 103), (2, 111)]], 0),
  (88, [.aload 0, .instanceof 3, .aload 0, .instanceof 3, .instanceof 775, .invokeinterface 95 7005, .ireturn], 0),
  (103, [.aload 0, .instanceof 3, .getfield 779, .ireturn], 0),
  (111, [.aload 0, .instanceof 3, .aload 0, .instanceof 3, .instanceof 776, .invokeinterface 95 7005, .ireturn], 0),
  (126, [.aload 0, .instanceof 3, .instanceof 770, .invokeinterface 96 3, .ireturn], 0)]
/-- 95: GriefWood$Scene.ofAll([I)I -/
def mb_95 : List (Nat × List Instr × Nat) := [(0, [.iconst 0, .istore 2, .iconst 0, .istore 3], 4),
  (4, [.iload 3, .aload 0, .getfield 777, .if_icmp .ge 30, .iload 3, .aload 1, .arraylength, .if_icmp .ge 30, .iload 2, .aload 1, .iload 3, .iaload, .iadd, .istore 2, .iinc 3 1, .goto 4], 0),
  (30, [.iload 2, .ireturn], 0)]
/-- 96: GriefWood$Scene.countOf([I)I -/
def mb_96 : List (Nat × List Instr × Nat) := [(0, [.iconst 0, .istore 1, .aload 0, .astore 2, .aload 2, .arraylength, .istore 3, .iconst 0, .istore 4], 10),
  (10, [.iload 4, .iload 3, .if_icmp .ge 36, .aload 2, .iload 4, .iaload, .istore 5, .iload 5, .ifCond .eq 30, .iinc 1 1], 30),
  (30, [.iinc 4 1, .goto 10], 0),
  (36, [.iload 1, .ireturn], 0)]
/-- 97: GriefWood.led(III)I -/
def mb_97 : List (Nat × List Instr × Nat) := [(0, [.aload 0, .iload 1, .invokeinterface 17 1005, .ifCond .eq 27, .iload 2, .iconst 1, .iconst 60, .invokeinterface 14 7, .ifCond .eq 27, .iload 3, .iconst 0, .iconst 1, .invokeinterface 14 7, .ifCond .ne 29], 27),
  (27, [.iconst (-1), .ireturn], 0),
  (29, [.aload 0, .instanceof 3, .aload 0, .instanceof 0, .instanceof 128, .invokeinterface 20 7004, .iconst 0, .istore 4], 46),
  (46, [.iload 4, .iload 2, .if_icmp .ge 71, .aload 0, .instanceof 0, .aload 0, .instanceof 3, .iload 1, .invokeinterface 21 2007, .pop, .iinc 4 1, .goto 46], 0),
  (71, [.iload 3, .ifCond .ne 100, .aload 0, .instanceof 3, .instanceof 775, .iload 1, .iaload, .aload 0, .instanceof 0, .instanceof 128, .instanceof 775, .iload 1, .iaload, .isub, .goto 109], 0),
  (100, [.aload 0, .instanceof 3, .instanceof 773, .iload 1, .iaload], 109),
  (109, [.ireturn], 0)]
/-- 98: GriefWood.through(I)I -/
def mb_98 : List (Nat × List Instr × Nat) := [(0, [.iload 1, .iconst 0, .iconst 1, .invokeinterface 14 7, .ifCond .eq 26, .aload 0, .instanceof 0, .instanceof 128, .instanceof 770, .iload 1, .invokeinterface 99 5, .goto 27], 0),
  (26, [.iconst (-1)], 27),
  (27, [.ireturn], 0)]
/-- 99: GriefWood$WoodThought.wayThrough([II)I -/
def mb_99 : List (Nat × List Instr × Nat) := [(0, [.iconst 8, .newarray .int, .astore 2, .iconst 8, .newarray .int, .astore 3, .iconst 0, .istore 4], 13),
  (13, [.iload 4, .iconst 64, .if_icmp .ge 153, .iload 4, .iconst 8, .irem, .istore 5, .iload 4, .iconst 8, .if_icmp .ge 38, .iconst (-1), .goto 42], 0),
  (38, [.aload 2, .iload 5, .iaload], 42),
  (42, [.istore 6, .iload 5, .ifCond .ne 53, .iconst (-1), .goto 59], 0),
  (53, [.aload 2, .iload 5, .iconst 1, .isub, .iaload], 59),
  (59, [.istore 7, .iload 6, .iload 7, .d2f, .istore 8, .iload 6, .iload 8, .if_icmp .ne 91, .iload 4, .iconst 8, .if_icmp .lt 91, .aload 3, .iload 5, .iaload, .goto 92], 0),
  (91, [.iconst 0], 92),
  (92, [.istore 9, .iload 7, .iload 8, .if_icmp .ne 117, .iload 5, .ifCond .le 117, .iload 9, .aload 3, .iload 5, .iconst 1, .isub, .iaload, .iadd, .istore 9], 117),
  (117, [.aload 2, .iload 5, .iload 8, .iconst 0, .d2f, .aload 0, .iload 4, .iaload, .iadd, .iastore, .aload 3, .iload 5, .iload 4, .ifCond .ne 144, .iconst 1, .goto 146], 0),
  (144, [.iload 9], 146),
  (146, [.iastore, .iinc 4 1, .goto 13], 0),
  (153, [.iload 1, .ifCond .ne 164, .aload 2, .iconst 7, .iaload, .goto 168], 0),
  (164, [.aload 3, .iconst 7, .iaload], 168),
  (168, [.ireturn], 0)]
/-- 100: GriefWood.meeting(I)I -/
def mb_100 : List (Nat × List Instr × Nat) := [(0, [.iload 1, .iconst 0, .iconst 1, .invokeinterface 14 7, .ifCond .eq 23, .aload 0, .instanceof 0, .instanceof 128, .iload 1, .invokeinterface 101 5, .goto 24], 0),
  (23, [.iconst (-1)], 24),
  (24, [.ireturn], 0)]
/-- 101: GriefWood$WoodThought.meetingPlace(LGriefWood$Scene;I)I -/
def mb_101 : List (Nat × List Instr × Nat) := [(0, [.aload 0, .getfield 777, .ifCond .ne 17, .iload 1, .ifCond .ne 15, .iconst 0, .goto 16], 0),
  (15, [.iconst (-1)], 16),
  (16, [.ireturn], 0),
  (17, [.iconst 0, .istore 2, .aload 0, .iconst 0, .invokeinterface 102 5, .istore 3, .iconst 1, .istore 4], 28),
  (28, [.iload 4, .iconst 64, .if_icmp .ge 61, .aload 0, .iload 4, .invokeinterface 102 5, .istore 5, .iload 5, .iload 3, .if_icmp .ge 55, .iload 5, .istore 3, .iload 4, .istore 2], 55),
  (55, [.iinc 4 1, .goto 28], 0),
  (61, [.iload 1, .ifCond .ne 69, .iload 3, .goto 70], 0),
  (69, [.iload 2], 70),
  (70, [.ireturn], 0)]
/-- 102: GriefWood$WoodThought.stepsTo(LGriefWood$Scene;I)I -/
def mb_102 : List (Nat × List Instr × Nat) := [(0, [.iconst 0, .istore 2, .iconst 0, .istore 3], 4),
  (4, [.iload 3, .aload 0, .getfield 777, .if_icmp .ge 56, .iload 2, .aload 0, .instanceof 773, .iload 3, .iaload, .iconst 8, .irem, .iload 1, .iconst 8, .irem, .isub, .d2l, .aload 0, .instanceof 773, .iload 3, .iaload, .iconst 8, .idiv, .iload 1, .iconst 8, .idiv, .isub, .d2l, .iadd, .iadd, .istore 2, .iinc 3 1, .goto 4], 0),
  (56, [.iload 2, .ireturn], 0)]
/-- 103: GriefWood.stands(I)I -/
def mb_103 : List (Nat × List Instr × Nat) := [(0, [.iload 1, .iconst 0, .iconst 2, .invokeinterface 14 7, .ifCond .eq 26, .aload 0, .instanceof 0, .instanceof 128, .instanceof 769, .iload 1, .invokeinterface 104 5, .goto 27], 0),
  (26, [.iconst (-1)], 27),
  (27, [.ireturn], 0)]
/-- 104: GriefWood$WoodThought.oaksTogether([II)I -/
def mb_104 : List (Nat × List Instr × Nat) := [(0, [.sipush 0, .lstore 2, .iconst 0, .istore 4], 5),
  (5, [.iload 4, .iconst 64, .if_icmp .ge 29, .lload 2, .aload 0, .iload 4, .iaload, .i2l, .iload 4, .lshl, .lor, .lstore 2, .iinc 4 1, .goto 5], 0),
  (29, [.iload 1, .iconst 2, .if_icmp .ne 70, .lload 2, .lload 2, .iconst 8, .lshl, .land, .invokedynamic 421, .lload 2, .lload 2, .iconst 1, .lshl, .land, .sipush (-72340172838076674), .land, .invokedynamic 421, .iadd, .istore 4, .iconst 4, .lload 2, .invokedynamic 421, .imul, .iconst 2, .iload 4, .imul, .isub, .ireturn], 0),
  (70, [.iconst 0, .istore 4, .iconst 0, .istore 5, .lload 2, .lstore 6, .iconst 0, .istore 8], 82),
  (82, [.iload 8, .iconst 64, .if_icmp .ge 141, .lload 6, .sipush 0, .lcmp, .ifCond .eq 141, .lload 6, .lload 6, .lneg, .land, .lload 6, .invokedynamic 426, .lstore 9, .lload 6, .lload 9, .sipush (-1), .lxor, .land, .lstore 6, .iinc 4 1, .iload 5, .lload 9, .invokedynamic 421, .d2f, .istore 5, .iinc 8 1, .goto 82], 0),
  (141, [.iload 1, .ifCond .ne 150, .iload 4, .goto 152], 0),
  (150, [.iload 5], 152),
  (152, [.ireturn], 0)]
/-- 105: java/lang/Long.bitCount(J)I -/
def mb_105 : List (Nat × List Instr × Nat) := [(0, [.lload 0, .lload 0, .iconst 1, .lushr, .sipush 6148914691236517205, .land, .lsub, .lstore 0, .lload 0, .sipush 3689348814741910323, .land, .lload 0, .iconst 2, .lushr, .sipush 3689348814741910323, .land, .ladd, .lstore 0, .lload 0, .lload 0, .iconst 4, .lushr, .ladd, .sipush 1085102592571150095, .land, .lstore 0, .lload 0, .lload 0, .iconst 8, .lushr, .ladd, .lstore 0, .lload 0, .lload 0, .iconst 16, .lushr, .ladd, .lstore 0, .lload 0, .lload 0], 50),
  (50, [.iconst 32, .lushr, .ladd, .lstore 0, .lload 0, .l2i, .iconst 127, .iand, .ireturn], 0)]
/-- 106: GriefWood$WoodThought.standAround(JJ)J -/
def mb_106 : List (Nat × List Instr × Nat) := [(0, [.lload 0, .lstore 4, .iconst 0, .istore 6], 6),
  (6, [.iload 6, .iconst 64, .if_icmp .ge 59, .lload 4, .iconst 8, .lshl, .lload 4, .iconst 8, .lushr, .lor, .lload 4, .iconst 1, .lshl, .sipush (-72340172838076674), .land, .lor, .lload 4, .iconst 1, .lushr, .sipush 9187201950435737471, .land, .lor, .lstore 7, .lload 4, .lload 7, .lload 2, .land, .lor, .lstore 4, .iinc 6 1, .goto 6], 0),
  (59, [.lload 4, .lreturn], 0)]
/-- 107: GriefWood.finds(II)Z -/
def mb_107 : List (Nat × List Instr × Nat) := [(0, [.iload 1, .iconst 1, .iconst 7, .invokeinterface 14 7, .ifCond .eq 20, .iload 2, .iconst 0, .iconst 99, .invokeinterface 14 7, .ifCond .ne 22], 20),
  (20, [.iconst 0, .freturn], 0),
  (22, [.aload 0, .instanceof 0, .instanceof 132, .instanceof 512, .iload 1, .iload 2, .iastore, .iconst 1, .freturn], 0)]
/-- 108: GriefWood.share(II)I -/
def mb_108 : List (Nat × List Instr × Nat) := [(0, [.iload 1, .iconst 0, .iconst 2, .invokeinterface 14 7, .ifCond .eq 18, .iload 2, .iconst 0, .iconst 1, .invokeinterface 14 7, .ifCond .ne 22], 18),
  (18, [.iconst (-10000), .ireturn], 0),
  (22, [.aload 0, .instanceof 0, .instanceof 132, .instanceof 512, .iload 1, .iload 2, .invokeinterface 109 7, .ireturn], 0)]
/-- 109: GriefWood$Thought.justShare([III)I -/
def mb_109 : List (Nat × List Instr × Nat) := [(0, [.iconst 1, .iload 1, .ishl, .istore 3, .iconst 1, .iload 1, .iconst 1, .iadd, .iconst 3, .irem, .ishl, .istore 4, .iconst 1, .iload 1, .iconst 2, .iadd, .iconst 3, .irem, .ishl, .istore 5, .iconst 2, .aload 0, .iload 3, .iaload, .imul, .aload 0, .iload 3, .iload 4, .ior, .iaload, .iadd, .aload 0, .iload 4, .iaload, .isub, .aload 0, .iload 3, .iload 5, .ior, .iaload], 45),
  (45, [.iadd, .aload 0, .iload 5, .iaload, .isub, .iconst 2, .aload 0, .iconst 7, .iaload, .aload 0, .iload 4, .iload 5, .ior, .iaload, .isub, .imul, .iadd, .istore 6, .iload 6, .i2l, .sipush 6, .invokedynamic 442, .l2i, .istore 7, .iload 2, .ifCond .ne 92, .iload 6, .iload 7, .idiv, .goto 97], 0),
  (92, [.iconst 6, .iload 7, .idiv], 97),
  (97, [.ireturn], 0)]
/-- 110: GriefWood$Thought.commonPart(JJ)J -/
def mb_110 : List (Nat × List Instr × Nat) := [(0, [.lload 0, .dadd, .lstore 4, .lload 2, .dadd, .lstore 6, .iconst 0, .istore 8], 15),
  (15, [.iload 8, .iconst 200, .if_icmp .ge 51, .lload 6, .sipush 0, .lcmp, .ifCond .eq 51, .lload 4, .lload 6, .lrem, .lstore 9, .lload 6, .lstore 4, .lload 9, .lstore 6, .iinc 8 1, .goto 15], 0),
  (51, [.lload 4, .sipush 1, .daload, .lreturn], 0)]
/-- 111: GriefWood.part(I)I -/
def mb_111 : List (Nat × List Instr × Nat) := [(0, [.aload 0, .instanceof 0, .instanceof 132, .instanceof 513, .iload 1, .invokeinterface 112 6005, .ireturn], 0)]
/-- 112: GriefWood$Row.tell(I)I -/
def mb_112 : List (Nat × List Instr × Nat) := [(0, [.iload 1, .iconst (-1), .if_icmp .ne 15, .aload 0, .iconst 0, .putfield 643, .aload 0, .getfield 643, .ireturn], 0),
  (15, [.iload 1, .aload 0, .getfield 641, .aload 0, .getfield 642, .invokeinterface 14 7, .ifCond .eq 42, .aload 0, .getfield 643, .aload 0, .instanceof 640, .arraylength, .if_icmp .lt 44], 42),
  (42, [.iconst (-1), .ireturn], 0),
  (44, [.aload 0, .instanceof 640, .aload 0, .getfield 643, .iload 1, .iastore, .aload 0, .dup, .getfield 643, .iconst 1, .iadd, .putfield 643, .aload 0, .getfield 643, .ireturn], 0)]
/-- 113: GriefWood.cut(II)I -/
def mb_113 : List (Nat × List Instr × Nat) := [(0, [.iload 1, .iconst 1, .iconst 12, .invokeinterface 14 7, .ifCond .eq 19, .iload 2, .iconst 0, .iconst 1, .invokeinterface 14 7, .ifCond .ne 21], 19),
  (19, [.iconst (-1), .ireturn], 0),
  (21, [.aload 0, .instanceof 0, .instanceof 132, .instanceof 513, .iload 1, .iload 2, .invokeinterface 114 7, .ireturn], 0)]
/-- 114: GriefWood$Thought.cutRow(LGriefWood$Row;II)I -/
def mb_114 : List (Nat × List Instr × Nat) := [(0, [.aload 0, .iconst 0, .aload 0, .getfield 643, .invokeinterface 115 6007, .iconst 0, .d2f, .istore 3, .aload 0, .invokeinterface 116 6003, .istore 4, .iconst 0, .istore 5], 23),
  (23, [.iload 5, .iconst 32, .if_icmp .ge 72, .iload 3, .iload 4, .if_icmp .ge 72, .iload 3, .iload 4, .iadd, .iconst 2, .idiv, .istore 6, .aload 0, .iload 6, .invokeinterface 117 5, .iload 1, .if_icmp .gt 61, .iload 6, .istore 4, .goto 66], 0),
  (61, [.iload 6, .iconst 1, .iadd, .istore 3], 66),
  (66, [.iinc 5 1, .goto 23], 0),
  (72, [.iload 2, .ifCond .ne 80, .iload 3, .goto 86], 0),
  (80, [.aload 0, .iload 1, .iload 3, .invokeinterface 118 7], 86),
  (86, [.ireturn], 0)]
/-- 115: GriefWood$Row.greatest(II)I -/
def mb_115 : List (Nat × List Instr × Nat) := [(0, [.iconst (-1), .istore 3, .iload 1, .iconst 0, .d2f, .istore 4], 9),
  (9, [.iload 4, .iload 2, .if_icmp .ge 42, .iload 4, .aload 0, .getfield 643, .if_icmp .ge 42, .iload 3, .aload 0, .instanceof 640, .iload 4, .iaload, .d2f, .istore 3, .iinc 4 1, .goto 9], 0),
  (42, [.iload 3, .ireturn], 0)]
/-- 116: GriefWood$Row.total()I -/
def mb_116 : List (Nat × List Instr × Nat) := [(0, [.iconst 0, .istore 1, .iconst 0, .istore 2], 4),
  (4, [.iload 2, .aload 0, .getfield 643, .if_icmp .ge 27, .iload 1, .aload 0, .instanceof 640, .iload 2, .iaload, .iadd, .istore 1, .iinc 2 1, .goto 4], 0),
  (27, [.iload 1, .ireturn], 0)]
/-- 117: GriefWood$Thought.partsWithin(LGriefWood$Row;I)I -/
def mb_117 : List (Nat × List Instr × Nat) := [(0, [.iconst 1, .istore 2, .iconst 0, .istore 3, .iconst 0, .istore 4], 7),
  (7, [.iload 4, .aload 0, .getfield 643, .if_icmp .ge 50, .iload 3, .aload 0, .instanceof 640, .iload 4, .iaload, .iadd, .iload 1, .if_icmp .le 34, .iinc 2 1, .iconst 0, .istore 3], 34),
  (34, [.iload 3, .aload 0, .instanceof 640, .iload 4, .iaload, .iadd, .istore 3, .iinc 4 1, .goto 7], 0),
  (50, [.iload 2, .ireturn], 0)]
/-- 118: GriefWood$Thought.waysToCut(LGriefWood$Row;II)I -/
def mb_118 : List (Nat × List Instr × Nat) := [(0, [.aload 0, .getfield 643, .iconst 1, .iadd, .newarray .int, .astore 3, .aload 3, .iconst 0, .iconst 1, .iastore, .aload 0, .getfield 643, .ifCond .ne 24, .iconst 1, .goto 25], 0),
  (24, [.iconst 0], 25),
  (25, [.istore 4, .iconst 1, .istore 5], 30),
  (30, [.iload 5, .iload 1, .if_icmp .gt 82, .aload 0, .getfield 643, .istore 6], 42),
  (42, [.iload 6, .ifCond .lt 65, .aload 3, .iload 6, .aload 0, .aload 3, .iload 6, .iload 2, .invokeinterface 119 9, .iastore, .iinc 6 (-1), .goto 42], 0),
  (65, [.iload 4, .aload 3, .aload 0, .getfield 643, .iaload, .iadd, .istore 4, .iinc 5 1, .goto 30], 0),
  (82, [.iload 4, .ireturn], 0)]
/-- 119: GriefWood$Thought.waysWithLastPart(LGriefWood$Row;[III)I -/
def mb_119 : List (Nat × List Instr × Nat) := [(0, [.iconst 0, .istore 4, .iconst 0, .istore 5, .iload 2, .iconst 1, .isub, .istore 6], 11),
  (11, [.iload 6, .ifCond .lt 49, .iload 5, .aload 0, .instanceof 640, .iload 6, .iaload, .iadd, .istore 5, .iload 5, .iload 3, .if_icmp .gt 43, .iload 4, .aload 1, .iload 6, .iaload, .iadd, .istore 4], 43),
  (43, [.iinc 6 (-1), .goto 11], 0),
  (49, [.iload 4, .ireturn], 0)]
/-- 120: GriefWood.wish(III)Z -/
def mb_120 : List (Nat × List Instr × Nat) := [(0, [.iload 1, .iconst 0, .iconst 1, .invokeinterface 14 7, .ifCond .eq 25, .iload 2, .iconst 0, .iconst 3, .invokeinterface 14 7, .ifCond .eq 25, .iload 3, .invokeinterface 121 3, .ifCond .ne 27], 25),
  (25, [.iconst 0, .freturn], 0),
  (27, [.aload 0, .instanceof 0, .instanceof 132, .instanceof 517, .iload 1, .iload 2, .iload 3, .invokeinterface 122 8008, .iconst 1, .freturn], 0)]
/-- 121: GriefWood$Wishes.isRow(I)Z -/
def mb_121 : List (Nat × List Instr × Nat) := [(0, [.iload 0, .iconst 0, .iconst 3210, .invokeinterface 14 7, .ifCond .ne 13, .iconst 0, .freturn], 0),
  (13, [.iconst 0, .istore 1, .iconst 0, .istore 2, .iload 0, .istore 3], 19),
  (19, [.iload 2, .iconst 4, .if_icmp .ge 44, .iload 1, .iconst 1, .iload 3, .iconst 10, .irem, .ishl, .ior, .istore 1, .iinc 2 1, .iload 3, .iconst 10, .idiv, .istore 3, .goto 19], 0),
  (44, [.iload 1, .iconst 15, .if_icmp .ne 54, .iconst 1, .goto 55], 0),
  (54, [.iconst 0], 55),
  (55, [.freturn], 0)]
/-- 122: GriefWood$Wishes.tell(III)V -/
def mb_122 : List (Nat × List Instr × Nat) := [(0, [.iconst 0, .istore 4], 3),
  (3, [.iload 4, .iconst 4, .if_icmp .ge 34, .aload 0, .instanceof 896, .iconst 4, .iload 1, .imul, .iload 2, .iadd, .aaload, .iload 3, .iload 4, .invokeinterface 123 5, .iload 4, .iastore, .iinc 4 1, .goto 3], 0),
  (34, [.return_], 0)]
/-- 123: GriefWood$Wishes.digit(II)I -/
def mb_123 : List (Nat × List Instr × Nat) := [(0, [.iload 0, .istore 2, .iload 1, .istore 3], 4),
  (4, [.iload 3, .iconst 3, .if_icmp .ge 20, .iload 2, .iconst 10, .idiv, .istore 2, .iinc 3 1, .goto 4], 0),
  (20, [.iload 2, .iconst 10, .irem, .ireturn], 0)]
/-- 124: GriefWood.pairs(I)I -/
def mb_124 : List (Nat × List Instr × Nat) := [(0, [.iload 1, .ifCond .ne 18, .aload 0, .instanceof 0, .instanceof 132, .instanceof 517, .invokeinterface 125 8003, .ireturn], 0),
  (18, [.iload 1, .iconst 1, .if_icmp .ne 39, .aload 0, .instanceof 0, .instanceof 132, .instanceof 517, .invokeinterface 128 8003, .goto 40], 0),
  (39, [.iconst (-1)], 40),
  (40, [.ireturn], 0)]
/-- 125: GriefWood$Wishes.asked()I -/
def mb_125 : List (Nat × List Instr × Nat) := [(0, [.iconst 4, .newarray .int, .dup, .iconst 0, .iconst (-1), .iastore, .dup, .iconst 1, .iconst (-1), .iastore, .dup, .iconst 2, .iconst (-1), .iastore, .dup, .iconst 3, .iconst (-1), .iastore, .astore 1, .iconst 4, .newarray .int, .astore 2, .iconst 0, .istore 3], 26),
  (26, [.iload 3, .iconst 4, .if_icmp .ge 131, .iload 3, .istore 4, .iconst 0, .istore 5], 37),
  (37, [.iload 5, .iconst 16, .if_icmp .ge 125, .iload 4, .iconst (-1), .if_icmp .eq 125, .aload 0, .iload 4, .aload 2, .iload 4, .iaload, .invokeinterface 126 8007, .istore 6, .aload 2, .iload 4, .dup2, .iaload, .iconst 1, .iadd, .iastore, .aload 1, .iload 6, .iaload, .istore 7, .iload 7, .iconst (-1), .if_icmp .eq 109, .aload 0, .instanceof 896, .iconst 4, .iload 6, .iadd, .aaload, .iload 4, .iaload, .aload 0, .instanceof 896, .iconst 4, .iload 6, .iadd], 102),
  (102, [.aaload, .iload 7, .iaload, .if_icmp .ge 119], 109),
  (109, [.aload 1, .iload 6, .iload 4, .iastore, .iload 7, .istore 4], 119),
  (119, [.iinc 5 1, .goto 37], 0),
  (125, [.iinc 3 1, .goto 26], 0),
  (131, [.iconst 0, .istore 3, .iconst 0, .istore 4], 136),
  (136, [.iload 4, .iconst 4, .if_icmp .ge 160, .iconst 10, .iload 3, .imul, .aload 1, .iload 4, .invokeinterface 127 5, .iadd, .istore 3, .iinc 4 1, .goto 136], 0),
  (160, [.iload 3, .ireturn], 0)]
/-- 126: GriefWood$Wishes.atRank(II)I -/
def mb_126 : List (Nat × List Instr × Nat) := [(0, [.iconst 0, .istore 3], 2),
  (2, [.iload 3, .iconst 4, .if_icmp .ge 27, .aload 0, .instanceof 896, .iload 1, .aaload, .iload 3, .iaload, .iload 2, .if_icmp .ne 21, .iload 3, .ireturn], 0),
  (21, [.iinc 3 1, .goto 2], 0),
  (27, [.iconst 0, .ireturn], 0)]
/-- 127: GriefWood$Wishes.keptBy([II)I -/
def mb_127 : List (Nat × List Instr × Nat) := [(0, [.iconst 0, .istore 2], 2),
  (2, [.iload 2, .aload 0, .arraylength, .if_icmp .ge 23, .aload 0, .iload 2, .iaload, .iload 1, .if_icmp .ne 17, .iload 2, .ireturn], 0),
  (17, [.iinc 2 1, .goto 2], 0),
  (23, [.iconst 0, .ireturn], 0)]
/-- 128: GriefWood$Wishes.steadyWays()I -/
def mb_128 : List (Nat × List Instr × Nat) := [(0, [.iconst 4, .newarray .int, .astore 1, .iconst 0, .istore 2, .iconst 0, .istore 3], 8),
  (8, [.iload 3, .iconst 256, .if_icmp .ge 80, .iconst 0, .istore 4, .iconst 0, .istore 5], 21),
  (21, [.iload 5, .iconst 4, .if_icmp .ge 56, .aload 1, .iload 5, .iload 3, .iconst 2, .iload 5, .imul, .ishr, .iconst 3, .iand, .iastore, .iload 4, .iconst 1, .aload 1, .iload 5, .iaload, .ishl, .ior, .istore 4, .iinc 5 1, .goto 21], 0),
  (56, [.iload 4, .iconst 15, .if_icmp .ne 74, .aload 0, .aload 1, .invokeinterface 129 8005, .ifCond .eq 74, .iinc 2 1], 74),
  (74, [.iinc 3 1, .goto 8], 0),
  (80, [.iload 2, .ireturn], 0)]
/-- 129: GriefWood$Wishes.isSteady([I)Z -/
def mb_129 : List (Nat × List Instr × Nat) := [(0, [.iconst 0, .istore 2], 2),
  (2, [.iload 2, .iconst 4, .if_icmp .ge 80, .iconst 0, .istore 3], 9),
  (9, [.iload 3, .iconst 4, .if_icmp .ge 74, .aload 1, .iload 3, .iaload, .istore 4, .aload 0, .instanceof 896, .iload 2, .aaload, .iload 4, .iaload, .aload 0, .instanceof 896, .iload 2, .aaload, .aload 1, .iload 2, .iaload, .iaload, .if_icmp .ge 68, .aload 0, .instanceof 896, .iconst 4, .iload 4, .iadd, .aaload, .iload 2, .iaload, .aload 0, .instanceof 896, .iconst 4, .iload 4, .iadd, .aaload, .iload 3, .iaload, .if_icmp .ge 68, .iconst 0, .freturn], 0),
  (68, [.iinc 3 1, .goto 9], 0),
  (74, [.iinc 2 1, .goto 2], 0),
  (80, [.iconst 1, .freturn], 0)]
/-- 130: GriefWood.eggs(III)I -/
def mb_130 : List (Nat × List Instr × Nat) := [(0, [.iload 1, .iconst 0, .iconst 500, .invokeinterface 14 7, .ifCond .eq 30, .iload 2, .iconst 1, .iconst 8, .invokeinterface 14 7, .ifCond .eq 30, .iload 3, .iconst 0, .iconst 1, .invokeinterface 14 7, .ifCond .ne 32], 30),
  (30, [.iconst (-1), .ireturn], 0),
  (32, [.iload 1, .iload 2, .iload 3, .invokeinterface 131 7, .ireturn], 0)]
/-- 131: GriefWood$Thought.throwEggs(III)I -/
def mb_131 : List (Nat × List Instr × Nat) := [(0, [.iload 0, .ifCond .ne 14, .iload 2, .ifCond .ne 12, .iconst 0, .goto 13], 0),
  (12, [.iconst (-1)], 13),
  (13, [.ireturn], 0),
  (14, [.iload 1, .iconst 0, .d2f, .iconst 1, .iadd, .newarray .int, .astore 3, .iconst 0, .istore 4, .iconst 0, .istore 5], 30),
  (30, [.aload 3, .aload 3, .arraylength, .iconst 1, .isub, .iaload, .iload 0, .if_icmp .ge 92, .iload 4, .iload 0, .if_icmp .ge 92, .aload 3, .aload 3, .arraylength, .iconst 1, .isub, .iaload, .istore 5, .aload 3, .arraylength, .iconst 1, .isub, .istore 6], 60),
  (60, [.iload 6, .ifCond .le 86, .aload 3, .iload 6, .dup2, .iaload, .aload 3, .iload 6, .iconst 1, .isub, .iaload, .iconst 1, .iadd, .iadd, .iastore, .iinc 6 (-1), .goto 60], 0),
  (86, [.iinc 4 1, .goto 30], 0),
  (92, [.iload 2, .ifCond .ne 101, .iload 4, .goto 105], 0),
  (101, [.iload 0, .iload 5, .isub], 105),
  (105, [.ireturn], 0)]
/-- 132: GriefWood.season(IIII)I -/
def mb_132 : List (Nat × List Instr × Nat) := [(0, [.iload 1, .invokeinterface 133 3, .ifCond .eq 33, .iload 2, .invokeinterface 133 3, .ifCond .eq 33, .iload 3, .iconst 0, .iconst 5, .invokeinterface 14 7, .ifCond .eq 33, .iload 4, .iconst 0, .iconst 1, .invokeinterface 14 7, .ifCond .ne 35], 33),
  (33, [.iconst (-1), .ireturn], 0),
  (35, [.iload 1, .iload 2, .iload 3, .iload 4, .invokeinterface 134 9, .ireturn], 0)]
/-- 133: GriefWood$Thought.isChance(I)Z -/
def mb_133 : List (Nat × List Instr × Nat) := [(0, [.iload 0, .ifCond .lt 43, .iload 0, .iconst 10, .idiv, .iconst 0, .iconst 5, .invokeinterface 14 7, .ifCond .eq 43, .iload 0, .iconst 10, .irem, .iconst 1, .iconst 5, .invokeinterface 14 7, .ifCond .eq 43, .iload 0, .iconst 10, .idiv, .iload 0, .iconst 10, .irem, .if_icmp .gt 43, .iconst 1, .goto 44], 0),
  (43, [.iconst 0], 44),
  (44, [.freturn], 0)]
/-- 134: GriefWood$Thought.goodSeason(IIII)I -/
def mb_134 : List (Nat × List Instr × Nat) := [(0, [.sipush 1, .lstore 4, .sipush 1, .lstore 6, .iconst 0, .istore 8], 9),
  (9, [.iload 8, .iload 2, .if_icmp .ge 94, .lload 4, .iload 0, .iconst 10, .idiv, .i2l, .lmul, .iload 1, .iconst 10, .irem, .i2l, .lmul, .lload 6, .lload 4, .lsub, .iload 1, .iconst 10, .idiv, .i2l, .lmul, .iload 0, .iconst 10, .irem, .i2l, .lmul, .ladd, .lstore 9, .lload 6, .iload 0, .iconst 10, .irem, .i2l, .lmul, .iload 1, .iconst 10, .irem, .i2l, .lmul], 63),
  (63, [.lstore 11, .lload 9, .lload 11, .invokedynamic 442, .lstore 13, .lload 9, .lload 13, .ldiv, .lstore 4, .lload 11, .lload 13, .ldiv, .lstore 6, .iinc 8 1, .goto 9], 0),
  (94, [.iload 3, .ifCond .ne 103, .lload 4, .goto 105], 0),
  (103, [.lload 6], 105),
  (105, [.l2i, .ireturn], 0)]
/-- 135: GriefWood.height(I)I -/
def mb_135 : List (Nat × List Instr × Nat) := [(0, [.aload 0, .instanceof 0, .instanceof 132, .instanceof 514, .iload 1, .invokeinterface 112 6005, .ireturn], 0)]
/-- 136: GriefWood.hollow(I)I -/
def mb_136 : List (Nat × List Instr × Nat) := [(0, [.aload 0, .instanceof 0, .instanceof 132, .instanceof 514, .astore 2, .iload 1, .lookupswitch 82 #[(0, 48), (1, 53), (2, 58), (3, 65), (4, 77)]], 0),
  (48, [.aload 2, .invokeinterface 137 3, .ireturn], 0),
  (53, [.aload 2, .invokeinterface 139 3, .ireturn], 0),
  (58, [.aload 2, .iconst 0, .iconst 1, .invokeinterface 140 7, .ireturn], 0),
  (65, [.aload 2, .aload 2, .getfield 643, .iconst 1, .isub, .iconst (-1), .invokeinterface 140 7, .ireturn], 0),
  (77, [.aload 2, .invokeinterface 141 3, .ireturn], 0),
  (82, [.iconst (-1), .ireturn], 0)]
/-- 137: GriefWood$Thought.allRain(LGriefWood$Row;)I -/
def mb_137 : List (Nat × List Instr × Nat) := [(0, [.iconst 0, .istore 1, .iconst 0, .istore 2], 4),
  (4, [.iload 2, .aload 0, .getfield 643, .if_icmp .ge 26, .iload 1, .aload 0, .iload 2, .invokeinterface 138 5, .iadd, .istore 1, .iinc 2 1, .goto 4], 0),
  (26, [.iload 1, .ireturn], 0)]
/-- 138: GriefWood$Thought.rainOn(LGriefWood$Row;I)I -/
def mb_138 : List (Nat × List Instr × Nat) := [(0, [.aload 0, .iconst 0, .iload 1, .iconst 1, .iadd, .invokeinterface 115 6007, .aload 0, .iload 1, .aload 0, .getfield 643, .invokeinterface 115 6007, .d2i, .aload 0, .instanceof 640, .iload 1, .iaload, .isub, .ireturn], 0)]
/-- 139: GriefWood$Thought.pools(LGriefWood$Row;)I -/
def mb_139 : List (Nat × List Instr × Nat) := [(0, [.iconst 0, .istore 1, .iconst 0, .istore 2, .iconst 0, .istore 3], 6),
  (6, [.iload 3, .aload 0, .getfield 643, .if_icmp .ge 50, .aload 0, .iload 3, .invokeinterface 138 5, .ifCond .le 26, .iconst 1, .goto 27], 0),
  (26, [.iconst 0], 27),
  (27, [.istore 4, .iload 4, .ifCond .eq 41, .iload 2, .ifCond .ne 41, .iinc 1 1], 41),
  (41, [.iload 4, .istore 2, .iinc 3 1, .goto 6], 0),
  (50, [.iload 1, .ireturn], 0)]
/-- 140: GriefWood$Thought.seenFrom(LGriefWood$Row;II)I -/
def mb_140 : List (Nat × List Instr × Nat) := [(0, [.iconst 0, .istore 3, .iconst (-1), .istore 4, .iload 1, .istore 5, .iconst 0, .istore 6], 11),
  (11, [.iload 6, .aload 0, .getfield 643, .if_icmp .ge 71, .iload 5, .iconst 0, .aload 0, .getfield 643, .iconst 1, .isub, .invokeinterface 14 7, .ifCond .eq 71, .aload 0, .instanceof 640, .iload 5, .iaload, .iload 4, .if_icmp .le 59, .aload 0, .instanceof 640, .iload 5, .iaload, .istore 4, .iinc 3 1], 59),
  (59, [.iload 5, .iload 2, .iadd, .istore 5, .iinc 6 1, .goto 11], 0),
  (71, [.iload 3, .ireturn], 0)]
/-- 141: GriefWood$Thought.couples(LGriefWood$Row;)I -/
def mb_141 : List (Nat × List Instr × Nat) := [(0, [.iconst 0, .istore 1, .iconst 0, .istore 2], 4),
  (4, [.iload 2, .aload 0, .getfield 643, .if_icmp .ge 65, .iload 2, .iconst 1, .iadd, .istore 3], 16),
  (16, [.iload 3, .aload 0, .getfield 643, .if_icmp .ge 59, .aload 0, .iload 2, .iconst 1, .iadd, .iload 3, .invokeinterface 115 6007, .aload 0, .instanceof 640, .iload 2, .iaload, .aload 0, .instanceof 640, .iload 3, .iaload, .d2i, .if_icmp .ge 53, .iinc 1 1], 53),
  (53, [.iinc 3 1, .goto 16], 0),
  (59, [.iinc 2 1, .goto 4], 0),
  (65, [.iload 1, .ireturn], 0)]
/-- 142: GriefWood.third(I)I -/
def mb_142 : List (Nat × List Instr × Nat) := [(0, [.aload 0, .instanceof 0, .instanceof 132, .instanceof 515, .iload 1, .invokeinterface 112 6005, .ireturn], 0)]
/-- 143: GriefWood.three(I)I -/
def mb_143 : List (Nat × List Instr × Nat) := [(0, [.iload 1, .iconst 0, .iconst 1, .invokeinterface 14 7, .ifCond .ne 11, .iconst (-1), .ireturn], 0),
  (11, [.aload 0, .instanceof 0, .instanceof 132, .instanceof 515, .invokeinterface 144 3, .istore 2, .iload 1, .ifCond .ne 37, .iload 2, .iconst 1, .d2i, .goto 38], 0),
  (37, [.iload 2], 38),
  (38, [.ireturn], 0)]
/-- 144: GriefWood$Thought.waysAmongThree(LGriefWood$Row;)I -/
def mb_144 : List (Nat × List Instr × Nat) := [(0, [.aload 0, .invokeinterface 116 6003, .iconst 3, .idiv, .istore 1, .iconst 3, .iload 1, .imul, .aload 0, .invokeinterface 116 6003, .if_icmp .ne 28, .aload 0, .iconst 0, .iload 1, .iload 1, .iload 1, .invokeinterface 145 11, .goto 29], 0),
  (28, [.iconst 0], 29),
  (29, [.ireturn], 0)]
/-- 145: GriefWood$Thought.waysFrom(LGriefWood$Row;IIII)I -/
def mb_145 : List (Nat × List Instr × Nat) := [(0, [.iload 2, .ifCond .lt 13, .iload 3, .ifCond .lt 13, .iload 4, .ifCond .ge 15], 13),
  (13, [.iconst 0, .ireturn], 0),
  (15, [.iload 1, .aload 0, .getfield 643, .if_icmp .lt 25, .iconst 1, .ireturn], 0),
  (25, [.aload 0, .instanceof 640, .iload 1, .iaload, .istore 5, .aload 0, .iload 1, .iconst 1, .iadd, .iload 2, .iload 5, .isub, .iload 3, .iload 4, .invokeinterface 145 11, .aload 0, .iload 1, .iconst 1, .iadd, .iload 2, .iload 3, .iload 5, .isub, .iload 4, .invokeinterface 145 11, .iadd, .aload 0, .iload 1, .iconst 1, .iadd, .iload 2, .iload 3, .iload 4, .iload 5, .isub, .invokeinterface 145 11, .iadd, .ireturn], 0)]
/-- 146: GriefWood.sum(III)I -/
def mb_146 : List (Nat × List Instr × Nat) := [(0, [.aload 0, .instanceof 0, .instanceof 132, .iload 1, .iload 2, .iload 3, .invokeinterface 147 5009, .ireturn], 0)]
/-- 147: GriefWood$Told.tellSum(III)I -/
def mb_147 : List (Nat × List Instr × Nat) := [(0, [.iload 1, .iconst (-1), .if_icmp .ne 20, .aload 0, .iconst 0, .putfield 518, .aload 0, .iconst 0, .putfield 519, .aload 0, .getfield 518, .ireturn], 0),
  (20, [.iload 1, .iconst 0, .iconst 99, .invokeinterface 14 7, .ifCond .eq 59, .iload 2, .iconst 0, .iconst 15, .invokeinterface 14 7, .ifCond .eq 59, .iload 3, .iconst 0, .iconst 15, .invokeinterface 14 7, .ifCond .eq 59, .aload 0, .getfield 518, .iconst 8, .if_icmp .lt 61], 59),
  (59, [.iconst (-1), .ireturn], 0),
  (61, [.aload 0, .dup, .getfield 519, .iconst 256, .iload 1, .imul, .iconst 16, .iload 2, .imul, .iadd, .iload 3, .iadd, .iadd, .putfield 519, .aload 0, .dup, .getfield 518, .iconst 1, .iadd, .putfield 518, .aload 0, .getfield 518, .ireturn], 0)]
/-- 148: GriefWood.pounds(I)I -/
def mb_148 : List (Nat × List Instr × Nat) := [(0, [.aload 0, .instanceof 0, .instanceof 132, .getfield 519, .istore 2, .iload 1, .lookupswitch 59 #[(0, 40), (1, 46), (2, 54)]], 0),
  (40, [.iload 2, .iconst 256, .idiv, .ireturn], 0),
  (46, [.iload 2, .iconst 16, .idiv, .iconst 16, .irem, .ireturn], 0),
  (54, [.iload 2, .iconst 16, .irem, .ireturn], 0),
  (59, [.iconst (-1), .ireturn], 0)]
/-- 149: GriefWood.round(III)I -/
def mb_149 : List (Nat × List Instr × Nat) := [(0, [.iload 1, .iconst 1, .iconst 20, .invokeinterface 14 7, .ifCond .eq 33, .iload 2, .iconst 1, .iconst 20, .invokeinterface 14 7, .ifCond .eq 33, .iload 3, .iconst 0, .iload 1, .iload 2, .imul, .iconst 1, .isub, .invokeinterface 14 7, .ifCond .ne 35], 33),
  (33, [.iconst (-1), .ireturn], 0),
  (35, [.iload 1, .iload 2, .iload 3, .invokeinterface 150 7, .ireturn], 0)]
/-- 150: GriefWood$WoodThought.cellInRound(III)I -/
def mb_150 : List (Nat × List Instr × Nat) := [(0, [.iconst 0, .istore 3], 2),
  (2, [.iload 3, .iconst 10, .if_icmp .ge 26, .iload 0, .iload 1, .iload 3, .iconst 1, .iadd, .invokeinterface 151 7, .iload 2, .if_icmp .gt 26, .iinc 3 1, .goto 2], 0),
  (26, [.iload 0, .iconst 2, .iload 3, .imul, .isub, .iconst 1, .isub, .istore 4, .iload 1, .iconst 2, .iload 3, .imul, .isub, .iconst 1, .isub, .istore 5, .iload 2, .iload 0, .iload 1, .iload 3, .invokeinterface 151 7, .isub, .istore 6, .iload 3, .istore 7, .iload 3, .istore 8, .iload 6, .iload 4, .if_icmp .gt 77, .iload 7, .iload 6, .iadd, .istore 7, .goto 161], 0),
  (77, [.iload 6, .iload 4, .iload 5, .iadd, .if_icmp .gt 107, .iload 7, .iload 4, .iadd, .istore 7, .iload 8, .iload 6, .iload 4, .isub, .iadd, .istore 8, .goto 161], 0),
  (107, [.iload 6, .iconst 2, .iload 4, .imul, .iload 5, .iadd, .if_icmp .gt 144, .iload 7, .iconst 2, .iload 4, .imul, .iload 5, .iadd, .iload 6, .isub, .iadd, .istore 7, .iload 8, .iload 5, .iadd, .istore 8, .goto 161], 0),
  (144, [.iload 8, .iconst 2, .iload 4, .imul, .iconst 2, .iload 5, .imul, .iadd, .iload 6, .isub, .iadd, .istore 8], 161),
  (161, [.iconst 100, .iload 8, .imul, .iload 7, .iadd, .ireturn], 0)]
/-- 151: GriefWood$WoodThought.beforeRing(III)I -/
def mb_151 : List (Nat × List Instr × Nat) := [(0, [.iload 0, .iload 1, .imul, .iload 0, .iconst 2, .iload 2, .imul, .isub, .iconst 0, .d2f, .iload 1, .iconst 2, .iload 2, .imul, .isub, .iconst 0, .d2f, .imul, .isub, .ireturn], 0)]
/-- 152: GriefWood.rounds(IIII)I -/
def mb_152 : List (Nat × List Instr × Nat) := [(0, [.iload 1, .iconst 1, .iconst 20, .invokeinterface 14 7, .ifCond .eq 43, .iload 2, .iconst 1, .iconst 20, .invokeinterface 14 7, .ifCond .eq 43, .iload 3, .iconst 0, .iload 1, .iconst 1, .isub, .invokeinterface 14 7, .ifCond .eq 43, .iload 4, .iconst 0, .iload 2, .iconst 1, .isub, .invokeinterface 14 7, .ifCond .ne 45], 43),
  (43, [.iconst (-1), .ireturn], 0),
  (45, [.iload 1, .iload 2, .iload 3, .iload 4, .invokeinterface 153 9, .ireturn], 0)]
/-- 153: GriefWood$WoodThought.numberInRound(IIII)I -/
def mb_153 : List (Nat × List Instr × Nat) := [(0, [.iload 2, .iload 3, .d2i, .iload 0, .iconst 1, .isub, .iload 2, .isub, .iload 1, .iconst 1, .isub, .iload 3, .isub, .d2i, .d2i, .istore 4, .iload 0, .iconst 2, .iload 4, .imul, .isub, .iconst 1, .isub, .istore 5, .iload 1, .iconst 2, .iload 4, .imul, .isub, .iconst 1, .isub, .istore 6, .iload 2, .iload 4, .isub, .istore 7, .iload 3, .iload 4, .isub, .istore 8], 55),
  (55, [.iload 0, .iload 1, .iload 4, .invokeinterface 151 7, .istore 9, .iload 8, .ifCond .ne 75, .iload 9, .iload 7, .iadd, .ireturn], 0),
  (75, [.iload 7, .iload 5, .if_icmp .ne 91, .iload 9, .iload 5, .iadd, .iload 8, .iadd, .ireturn], 0),
  (91, [.iload 8, .iload 6, .if_icmp .ne 112, .iload 9, .iconst 2, .iload 5, .imul, .iadd, .iload 6, .iadd, .iload 7, .isub, .ireturn], 0),
  (112, [.iload 9, .iconst 2, .iload 5, .imul, .iadd, .iconst 2, .iload 6, .imul, .iadd, .iload 8, .isub, .ireturn], 0)]
/-- 154: GriefWood.halves(II)I -/
def mb_154 : List (Nat × List Instr × Nat) := [(0, [.iload 1, .iconst 1, .iconst 1000, .invokeinterface 14 7, .ifCond .eq 25, .iload 2, .iconst (-1), .if_icmp .eq 27, .iload 2, .iconst 1, .iload 1, .invokeinterface 14 7, .ifCond .ne 27], 25),
  (25, [.iconst (-1), .ireturn], 0),
  (27, [.iload 1, .iload 2, .iconst (-1), .if_icmp .ne 37, .iconst 1, .goto 38], 0),
  (37, [.iload 2], 38),
  (38, [.invokeinterface 155 5, .ireturn], 0)]
/-- 155: GriefWood$Thought.probes(II)I -/
def mb_155 : List (Nat × List Instr × Nat) := [(0, [.iconst 1, .istore 2, .iload 0, .istore 3, .iconst 0, .istore 4], 7),
  (7, [.iload 2, .iload 3, .if_icmp .ge 48, .iload 4, .iload 0, .if_icmp .ge 48, .iload 2, .iload 3, .iadd, .iconst 2, .idiv, .istore 5, .iload 1, .iload 5, .if_icmp .gt 37, .iload 5, .istore 3, .goto 42], 0),
  (37, [.iload 5, .iconst 1, .iadd, .istore 2], 42),
  (42, [.iinc 4 1, .goto 7], 0),
  (48, [.iload 4, .ireturn], 0)]
/-- 156: GriefWood.song(II)I -/
def mb_156 : List (Nat × List Instr × Nat) := [(0, [.iload 1, .iconst 0, .iconst 30, .invokeinterface 14 7, .ifCond .eq 19, .iload 2, .iconst 0, .iconst 1, .invokeinterface 14 7, .ifCond .ne 21], 19),
  (19, [.iconst (-1), .ireturn], 0),
  (21, [.iload 1, .iload 2, .invokeinterface 157 5, .ireturn], 0)]
/-- 157: GriefWood$Thought.songLines(II)I -/
def mb_157 : List (Nat × List Instr × Nat) := [(0, [.iconst 1, .istore 2, .iconst 2, .istore 3, .iconst 1, .istore 4, .iconst 1, .istore 5], 10),
  (10, [.iload 5, .iload 0, .if_icmp .gt 43, .iload 2, .iload 3, .iadd, .iload 5, .iadd, .iconst 1, .iadd, .istore 6, .iload 3, .istore 2, .iload 6, .istore 3, .iload 4, .iload 2, .iadd, .istore 4, .iinc 5 1, .goto 10], 0),
  (43, [.iload 1, .ifCond .ne 51, .iload 2, .goto 53], 0),
  (51, [.iload 4], 53),
  (53, [.ireturn], 0)]
/-- 158: GriefWood.spade(I)I -/
def mb_158 : List (Nat × List Instr × Nat) := [(0, [.aload 0, .instanceof 0, .instanceof 132, .instanceof 516, .iload 1, .invokeinterface 112 6005, .ireturn], 0)]
/-- 159: GriefWood.spades(I)I -/
def mb_159 : List (Nat × List Instr × Nat) := [(0, [.iload 1, .iconst 0, .iconst 1, .invokeinterface 14 7, .ifCond .ne 11, .iconst (-1), .ireturn], 0),
  (11, [.aload 0, .instanceof 0, .instanceof 132, .instanceof 516, .invokeinterface 160 6003, .istore 2, .iload 1, .ifCond .ne 31, .iload 2, .ireturn], 0),
  (31, [.aload 0, .instanceof 0, .instanceof 132, .instanceof 516, .iload 2, .invokeinterface 161 6005, .ifCond .eq 52, .iconst 1, .goto 53], 0),
  (52, [.iconst 0], 53),
  (53, [.ireturn], 0)]
/-- 160: GriefWood$Row.laidOnOneAnother()I -/
def mb_160 : List (Nat × List Instr × Nat) := [(0, [.iconst 0, .istore 1, .iconst 0, .istore 2], 4),
  (4, [.iload 2, .aload 0, .getfield 643, .if_icmp .ge 27, .iload 1, .aload 0, .instanceof 640, .iload 2, .iaload, .ixor, .istore 1, .iinc 2 1, .goto 4], 0),
  (27, [.iload 1, .ireturn], 0)]
/-- 161: GriefWood$Row.has(I)Z -/
def mb_161 : List (Nat × List Instr × Nat) := [(0, [.iconst 0, .istore 2], 2),
  (2, [.iload 2, .aload 0, .getfield 643, .if_icmp .ge 28, .aload 0, .instanceof 640, .iload 2, .iaload, .iload 1, .if_icmp .ne 22, .iconst 1, .freturn], 0),
  (22, [.iinc 2 1, .goto 2], 0),
  (28, [.iconst 0, .freturn], 0)]
/-- 162: GriefWood.game(I)I -/
def mb_162 : List (Nat × List Instr × Nat) := [(0, [.iload 1, .invokeinterface 163 3, .ifCond .eq 14, .iload 1, .invokeinterface 164 3, .goto 15], 0),
  (14, [.iconst (-1)], 15),
  (15, [.ireturn], 0)]
/-- 163: GriefWood$WoodThought.isGame(I)Z -/
def mb_163 : List (Nat × List Instr × Nat) := [(0, [.iload 0, .istore 1, .iconst 0, .istore 2, .iconst 0, .istore 3], 6),
  (6, [.iload 3, .iconst 5, .if_icmp .gt 64, .iload 1, .iconst 1, .if_icmp .ne 26, .iload 3, .ifCond .le 24, .iconst 1, .goto 25], 0),
  (24, [.iconst 0], 25),
  (25, [.freturn], 0),
  (26, [.iload 1, .iconst 10, .irem, .istore 4, .iload 1, .ifCond .le 48, .iload 4, .iconst 5, .if_icmp .gt 48, .iload 4, .iload 2, .if_icmp .ge 50], 48),
  (48, [.iconst 0, .freturn], 0),
  (50, [.iload 4, .istore 2, .iload 1, .iconst 10, .idiv, .istore 1, .iinc 3 1, .goto 6], 0),
  (64, [.iconst 0, .freturn], 0)]
/-- 164: GriefWood$WoodThought.winningStart(I)I -/
def mb_164 : List (Nat × List Instr × Nat) := [(0, [.iload 0, .invokeinterface 165 3, .istore 1, .iconst 16, .newarray .long, .astore 2, .iconst 5, .newarray .int, .astore 3, .iconst 32, .istore 4], 18),
  (18, [.iload 4, .iload 1, .if_icmp .ge 71, .iload 4, .invokeinterface 166 3, .iconst 5, .if_icmp .ne 65, .iload 4, .aload 3, .invokeinterface 167 4, .aload 3, .aload 2, .invokeinterface 168 5, .iconst (-1), .if_icmp .ne 65, .aload 2, .iload 4, .iconst 6, .ishr, .dup2, .laload, .sipush 1, .iload 4, .iconst 63, .iand, .lshl, .lor, .lastore], 65),
  (65, [.iinc 4 1, .goto 18], 0),
  (71, [.iload 1, .aload 3, .invokeinterface 167 4, .aload 3, .aload 2, .invokeinterface 168 5, .ireturn], 0)]
/-- 165: GriefWood$WoodThought.numberOf(I)I -/
def mb_165 : List (Nat × List Instr × Nat) := [(0, [.iconst 0, .istore 1, .iload 0, .istore 2], 4),
  (4, [.iload 2, .iconst 9, .if_icmp .le 26, .iload 1, .iconst 5, .if_icmp .ge 26, .iinc 1 1, .iload 2, .iconst 10, .idiv, .istore 2, .goto 4], 0),
  (26, [.iconst 31, .iload 1, .ishr, .istore 2, .iload 0, .istore 3, .iload 1, .iconst 1, .isub, .istore 4], 38),
  (38, [.iload 4, .ifCond .lt 70, .iload 2, .iconst 1, .iload 3, .iconst 10, .irem, .iconst 5, .iadd, .iconst 1, .isub, .iload 4, .isub, .ishl, .ior, .istore 2, .iload 3, .iconst 10, .idiv, .istore 3, .iinc 4 (-1), .goto 38], 0),
  (70, [.iload 2, .ireturn], 0)]
/-- 166: java/lang/Integer.bitCount(I)I -/
def mb_166 : List (Nat × List Instr × Nat) := [(0, [.iload 0, .iload 0, .iconst 1, .iushr, .iconst 1431655765, .iand, .isub, .istore 0, .iload 0, .iconst 858993459, .iand, .iload 0, .iconst 2, .iushr, .iconst 858993459, .iand, .iadd, .istore 0, .iload 0, .iload 0, .iconst 4, .iushr, .iadd, .iconst 252645135, .iand, .istore 0, .iload 0, .iload 0, .iconst 8, .iushr, .iadd, .istore 0, .iload 0, .iload 0, .iconst 16, .iushr, .iadd, .istore 0, .iload 0, .iconst 63], 51),
  (51, [.iand, .ireturn], 0)]
/-- 167: GriefWood$WoodThought.tellLengths(I[I)V -/
def mb_167 : List (Nat × List Instr × Nat) := [(0, [.iconst 0, .istore 2, .iconst 9, .istore 3], 5),
  (5, [.iload 3, .ifCond .lt 40, .iload 2, .aload 1, .arraylength, .if_icmp .ge 40, .iload 0, .iload 3, .ishr, .iconst 1, .iand, .ifCond .eq 34, .aload 1, .iload 2, .iload 3, .iconst 4, .iload 2, .isub, .isub, .iastore, .iinc 2 1], 34),
  (34, [.iinc 3 (-1), .goto 5], 0),
  (40, [.return_], 0)]
/-- 168: GriefWood$WoodThought.winningBite([I[J)I -/
def mb_168 : List (Nat × List Instr × Nat) := [(0, [.iconst 0, .istore 2], 2),
  (2, [.iload 2, .aload 0, .arraylength, .if_icmp .ge 67, .iconst 0, .istore 3], 10),
  (10, [.iload 3, .aload 0, .iload 2, .iaload, .if_icmp .ge 61, .aload 0, .iload 3, .iload 2, .invokeinterface 169 7, .istore 4, .aload 1, .iload 4, .iconst 6, .ishr, .iconst 15, .iand, .laload, .iload 4, .iconst 63, .iand, .lushr, .sipush 1, .land, .sipush 0, .lcmp, .ifCond .eq 55, .iconst 10, .iload 2, .imul, .iload 3, .iadd, .ireturn], 0),
  (55, [.iinc 3 1, .goto 10], 0),
  (61, [.iinc 2 1, .goto 2], 0),
  (67, [.iconst (-1), .ireturn], 0)]
/-- 169: GriefWood$WoodThought.bitten([III)I -/
def mb_169 : List (Nat × List Instr × Nat) := [(0, [.iconst 0, .istore 3, .iconst 0, .istore 4], 5),
  (5, [.iload 4, .aload 0, .arraylength, .if_icmp .ge 55, .iload 4, .iload 2, .if_icmp .ge 25, .aload 0, .iload 4, .iaload, .goto 33], 0),
  (25, [.aload 0, .iload 4, .iaload, .iload 1, .d2i], 33),
  (33, [.istore 5, .iload 3, .iconst 1, .iload 5, .iconst 5, .iadd, .iconst 1, .isub, .iload 4, .isub, .ishl, .ior, .istore 3, .iinc 4 1, .goto 5], 0),
  (55, [.iload 3, .ireturn], 0)]
/-- 170: GriefWood.undo()Z -/
def mb_170 : List (Nat × List Instr × Nat) := [(0, [.aload 0, .getfield 5, .ifCond .ne 9, .iconst 0, .freturn], 0),
  (9, [.aload 0, .dup, .getfield 5, .iconst 1, .isub, .putfield 5, .aload 0, .aload 0, .getfield 6, .iconst 6, .iadd, .iconst 1, .isub, .iconst 6, .irem, .putfield 6, .aload 0, .instanceof 0, .instanceof 128, .aload 0, .instanceof 4, .aload 0, .getfield 6, .aaload, .invokeinterface 20 7004, .iconst 1, .freturn], 0)]
/-- 171: GriefWood.image(Z)Z -/
def mb_171 : List (Nat × List Instr × Nat) := [(0, [.iload 1, .ifCond .eq 23, .aload 0, .instanceof 1, .aload 0, .instanceof 0, .invokeinterface 172 2004, .aload 0, .iconst 1, .putstatic 2, .goto 45], 0),
  (23, [.aload 0, .getfield 2, .ifCond .eq 45, .aload 0, .instanceof 0, .aload 0, .instanceof 1, .invokeinterface 172 2004, .aload 0, .invokeinterface 12 1002], 45),
  (45, [.aload 0, .getfield 2, .freturn], 0)]
/-- 172: GriefWood$Whole.copyFrom(LGriefWood$Whole;)V -/
def mb_172 : List (Nat × List Instr × Nat) := [(0, [.aload 0, .instanceof 128, .aload 1, .instanceof 128, .invokeinterface 20 7004, .aload 0, .instanceof 129, .aload 1, .instanceof 129, .invokeinterface 85 3004, .aload 0, .instanceof 130, .aload 1, .instanceof 130, .invokeinterface 86 4004, .aload 0, .instanceof 131, .aload 1, .instanceof 131, .invokeinterface 86 4004, .aload 0, .instanceof 132, .aload 1, .instanceof 132, .invokeinterface 173 5004, .aload 0, .aload 1, .getfield 133, .putfield 133, .aload 1, .instanceof 134, .iconst 0, .aload 0, .instanceof 134, .iconst 0, .aload 0, .instanceof 134, .arraylength, .dneg, .return_], 0)]
/-- 173: GriefWood$Told.copyFrom(LGriefWood$Told;)V -/
def mb_173 : List (Nat × List Instr × Nat) := [(0, [.aload 1, .instanceof 512, .iconst 0, .aload 0, .instanceof 512, .iconst 0, .aload 0, .instanceof 512, .arraylength, .dneg, .aload 0, .instanceof 513, .aload 1, .instanceof 513, .invokeinterface 174 6004, .aload 0, .instanceof 514, .aload 1, .instanceof 514, .invokeinterface 174 6004, .aload 0, .instanceof 515, .aload 1, .instanceof 515, .invokeinterface 174 6004, .aload 0, .instanceof 516, .aload 1, .instanceof 516, .invokeinterface 174 6004, .aload 0, .instanceof 517, .aload 1, .instanceof 517, .invokeinterface 175 8004, .aload 0, .aload 1, .getfield 518, .putfield 518, .aload 0], 82),
  (82, [.aload 1, .getfield 519, .putfield 519, .return_], 0)]
/-- 174: GriefWood$Row.copyFrom(LGriefWood$Row;)V -/
def mb_174 : List (Nat × List Instr × Nat) := [(0, [.aload 1, .instanceof 640, .iconst 0, .aload 0, .instanceof 640, .iconst 0, .aload 0, .instanceof 640, .arraylength, .aload 1, .instanceof 640, .arraylength, .d2i, .dneg, .aload 0, .aload 1, .getfield 643, .putfield 643, .return_], 0)]
/-- 175: GriefWood$Wishes.copyFrom(LGriefWood$Wishes;)V -/
def mb_175 : List (Nat × List Instr × Nat) := [(0, [.iconst 0, .istore 2], 2),
  (2, [.iload 2, .aload 0, .instanceof 896, .arraylength, .if_icmp .ge 35, .aload 1, .instanceof 896, .iload 2, .aaload, .iconst 0, .aload 0, .instanceof 896, .iload 2, .aaload, .iconst 0, .iconst 4, .dneg, .iinc 2 1, .goto 2], 0),
  (35, [.return_], 0)]
/-- 176: GriefWood.look(I)I -/
def mb_176 : List (Nat × List Instr × Nat) := [(0, [.aload 0, .instanceof 0, .instanceof 128, .astore 2, .iload 1, .lookupswitch 168 #[(0, 76), (1, 81), (2, 89), (3, 97), (4, 102), (5, 107), (6, 112), (7, 117), (8, 122), (9, 133), (10, 144), (11, 152), (12, 163)]], 0),
  (76, [.aload 2, .getfield 777, .ireturn], 0),
  (81, [.aload 2, .instanceof 769, .invokeinterface 96 3, .ireturn], 0),
  (89, [.aload 2, .instanceof 770, .invokeinterface 96 3, .ireturn], 0),
  (97, [.aload 2, .getfield 778, .ireturn], 0),
  (102, [.aload 2, .getfield 779, .ireturn], 0),
  (107, [.aload 2, .getfield 780, .ireturn], 0),
  (112, [.aload 2, .getfield 782, .ireturn], 0),
  (117, [.aload 2, .getfield 781, .ireturn], 0),
  (122, [.aload 0, .instanceof 0, .instanceof 129, .getfield 261, .ireturn], 0),
  (133, [.aload 0, .instanceof 0, .instanceof 130, .getfield 390, .ireturn], 0),
  (144, [.aload 0, .instanceof 0, .getfield 133, .ireturn], 0),
  (152, [.aload 0, .instanceof 0, .instanceof 131, .getfield 390, .ireturn], 0),
  (163, [.aload 0, .getfield 5, .ireturn], 0),
  (168, [.iconst (-100000), .ireturn], 0)]
/-- 177: GriefWoodModel.<init>()V -/
def mb_177 : List (Nat × List Instr × Nat) := [(0, [.aload 0, .monitorenter, .aload 0, .iconst 247, .newarray .int, .checkcast 1281, .aload 0, .iconst 1482, .newarray .int, .checkcast 1282, .aload 0, .iconst 247, .newarray .int, .checkcast 1284, .aload 0, .iconst 10, .newarray .int, .checkcast 1287, .aload 0, .iconst 600, .newarray .int, .checkcast 1288, .aload 0, .iconst 400, .newarray .int, .checkcast 1289, .aload 0, .iconst 138, .newarray .int, .dup, .iconst 0, .iconst 32, .iastore, .dup, .iconst 1, .iconst 100, .iastore, .dup, .iconst 2, .iconst 114], 77),
  (77, [.iastore, .dup, .iconst 3, .iconst 97, .iastore, .dup, .iconst 4, .iconst 119, .iastore, .dup, .iconst 5, .iconst 115, .iastore, .dup, .iconst 6, .iconst 32, .iastore, .dup, .iconst 7, .iconst 115, .iastore, .dup, .iconst 8, .iconst 116, .iastore, .dup, .iconst 9, .iconst 111, .iastore, .dup, .iconst 10, .iconst 112, .iastore, .dup, .iconst 11, .iconst 115, .iastore, .dup, .iconst 12, .iconst 32], 134),
  (134, [.iastore, .dup, .iconst 13, .iconst 112, .iastore, .dup, .iconst 14, .iconst 97, .iastore, .dup, .iconst 15, .iconst 121, .iastore, .dup, .iconst 16, .iconst 115, .iastore, .dup, .iconst 17, .iconst 32, .iastore, .dup, .iconst 18, .iconst 119, .iastore, .dup, .iconst 19, .iconst 104, .iastore, .dup, .iconst 20, .iconst 101, .iastore, .dup, .iconst 21, .iconst 110, .iastore, .dup, .iconst 22, .iconst 32], 194),
  (194, [.iastore, .dup, .iconst 23, .iconst 111, .iastore, .dup, .iconst 24, .iconst 114, .iastore, .dup, .iconst 25, .iconst 32, .iastore, .dup, .iconst 26, .iconst 97, .iastore, .dup, .iconst 27, .iconst 110, .iastore, .dup, .iconst 28, .iconst 100, .iastore, .dup, .iconst 29, .iconst 32, .iastore, .dup, .iconst 30, .iconst 110, .iastore, .dup, .iconst 31, .iconst 111, .iastore, .dup, .iconst 32, .iconst 116], 254),
  (254, [.iastore, .dup, .iconst 33, .iconst 32, .iastore, .dup, .iconst 34, .iconst 108, .iastore, .dup, .iconst 35, .iconst 111, .iastore, .dup, .iconst 36, .iconst 115, .iastore, .dup, .iconst 37, .iconst 115, .iastore, .dup, .iconst 38, .iconst 32, .iastore, .dup, .iconst 39, .iconst 115, .iastore, .dup, .iconst 40, .iconst 111, .iastore, .dup, .iconst 41, .iconst 108, .iastore, .dup, .iconst 42, .iconst 97], 314),
  (314, [.iastore, .dup, .iconst 43, .iconst 99, .iastore, .dup, .iconst 44, .iconst 101, .iastore, .dup, .iconst 45, .iconst 32, .iastore, .dup, .iconst 46, .iconst 111, .iastore, .dup, .iconst 47, .iconst 97, .iastore, .dup, .iconst 48, .iconst 107, .iastore, .dup, .iconst 49, .iconst 32, .iastore, .dup, .iconst 50, .iconst 116, .iastore, .dup, .iconst 51, .iconst 114, .iastore, .dup, .iconst 52, .iconst 117], 374),
  (374, [.iastore, .dup, .iconst 53, .iconst 102, .iastore, .dup, .iconst 54, .iconst 102, .iastore, .dup, .iconst 55, .iconst 108, .iastore, .dup, .iconst 56, .iconst 101, .iastore, .dup, .iconst 57, .iconst 32, .iastore, .dup, .iconst 58, .iconst 100, .iastore, .dup, .iconst 59, .iconst 117, .iastore, .dup, .iconst 60, .iconst 103, .iastore, .dup, .iconst 61, .iconst 32, .iastore, .dup, .iconst 62, .iconst 120], 434),
  (434, [.iastore, .dup, .iconst 63, .iconst 32, .iastore, .dup, .iconst 64, .iconst 121, .iastore, .dup, .iconst 65, .iconst 32, .iastore, .dup, .iconst 66, .iconst 102, .iastore, .dup, .iconst 67, .iconst 111, .iastore, .dup, .iconst 68, .iconst 117, .iastore, .dup, .iconst 69, .iconst 110, .iastore, .dup, .iconst 70, .iconst 100, .iastore, .dup, .iconst 71, .iconst 32, .iastore, .dup, .iconst 72, .iconst 98], 494),
  (494, [.iastore, .dup, .iconst 73, .iconst 97, .iastore, .dup, .iconst 74, .iconst 115, .iastore, .dup, .iconst 75, .iconst 107, .iastore, .dup, .iconst 76, .iconst 101, .iastore, .dup, .iconst 77, .iconst 116, .iastore, .dup, .iconst 78, .iconst 32, .iastore, .dup, .iconst 79, .iconst 109, .iastore, .dup, .iconst 80, .iconst 111, .iastore, .dup, .iconst 81, .iconst 114, .iastore, .dup, .iconst 82, .iconst 110], 554),
  (554, [.iastore, .dup, .iconst 83, .iconst 105, .iastore, .dup, .iconst 84, .iconst 110, .iastore, .dup, .iconst 85, .iconst 103, .iastore, .dup, .iconst 86, .iconst 32, .iastore, .dup, .iconst 87, .iconst 111, .iastore, .dup, .iconst 88, .iconst 110, .iastore, .dup, .iconst 89, .iconst 32, .iastore, .dup, .iconst 90, .iconst 115, .iastore, .dup, .iconst 91, .iconst 101, .iastore, .dup, .iconst 92, .iconst 101], 614),
  (614, [.iastore, .dup, .iconst 93, .iconst 107, .iastore, .dup, .iconst 94, .iconst 101, .iastore, .dup, .iconst 95, .iconst 114, .iastore, .dup, .iconst 96, .iconst 32, .iastore, .dup, .iconst 97, .iconst 108, .iastore, .dup, .iconst 98, .iconst 101, .iastore, .dup, .iconst 99, .iconst 97, .iastore, .dup, .iconst 100, .iconst 100, .iastore, .dup, .iconst 101, .iconst 32, .iastore, .dup, .iconst 102, .iconst 99], 674),
  (674, [.iastore, .dup, .iconst 103, .iconst 111, .iastore, .dup, .iconst 104, .iconst 110, .iastore, .dup, .iconst 105, .iconst 115, .iastore, .dup, .iconst 106, .iconst 111, .iastore, .dup, .iconst 107, .iconst 108, .iastore, .dup, .iconst 108, .iconst 101, .iastore, .dup, .iconst 109, .iconst 32, .iastore, .dup, .iconst 110, .iconst 109, .iastore, .dup, .iconst 111, .iconst 111, .iastore, .dup, .iconst 112, .iconst 117], 734),
  (734, [.iastore, .dup, .iconst 113, .iconst 114, .iastore, .dup, .iconst 114, .iconst 110, .iastore, .dup, .iconst 115, .iconst 32, .iastore, .dup, .iconst 116, .iconst 115, .iastore, .dup, .iconst 117, .iconst 116, .iastore, .dup, .iconst 118, .iconst 97, .iastore, .dup, .iconst 119, .iconst 110, .iastore, .dup, .iconst 120, .iconst 100, .iastore, .dup, .iconst 121, .iconst 32, .iastore, .dup, .iconst 122, .iconst 99], 794),
  (794, [.iastore, .dup, .iconst 123, .iconst 101, .iastore, .dup, .iconst 124, .iconst 108, .iastore, .dup, .iconst 125, .iconst 108, .iastore, .dup, .iconst 126, .iconst 32, .iastore, .dup, .iconst 127, .iconst 98, .iastore, .dup, .iconst 128, .iconst 97, .iastore, .dup, .iconst 129, .iconst 114, .iastore, .dup, .iconst 130, .iconst 101, .iastore, .dup, .iconst 131, .iconst 32, .iastore, .dup, .iconst 132, .iconst 116], 859),
  (859, [.iastore, .dup, .iconst 133, .iconst 97, .iastore, .dup, .iconst 134, .iconst 98, .iastore, .dup, .iconst 135, .iconst 108, .iastore, .dup, .iconst 136, .iconst 101, .iastore, .dup, .iconst 137, .iconst 32, .iastore, .checkcast 1295, .aload 0, .iconst 2, .newarray .int, .checkcast 1296, .aload 0, .iconst 48, .newarray .int, .checkcast 1297, .aload 0, .iconst 48, .newarray .int, .checkcast 1298, .aload 0, .iconst 48, .newarray .int, .checkcast 1299, .aload 0, .iconst 48], 932),
  (932, [.newarray .int, .checkcast 1300, .aload 0, .iconst 1200, .newarray .int, .checkcast 1301, .aload 0, .iconst 1200, .newarray .int, .checkcast 1302, .aload 0, .iconst 40, .newarray .int, .checkcast 1306, .aload 0, .iconst (-1), .putfield 1311, .aload 0, .iconst 128, .newarray .int, .checkcast 1313, .aload 0, .iconst 16, .newarray .int, .checkcast 1315, .aload 0, .iconst 16, .newarray .int, .checkcast 1316, .aload 0, .iconst 96, .newarray .int, .checkcast 1318, .aload 0, .iconst 10, .newarray .int, .checkcast 1319, .aload 0, .iconst 420, .newarray .int], 1015),
  (1015, [.checkcast 1320, .aload 0, .iconst 64, .newarray .int, .checkcast 1321, .aload 0, .iconst 64, .newarray .int, .checkcast 1322, .aload 0, .iconst 64, .newarray .int, .checkcast 1323, .aload 0, .iconst 64, .newarray .int, .checkcast 1324, .aload 0, .iconst 8, .newarray .int, .checkcast 1325, .aload 0, .iconst 12, .newarray .int, .checkcast 1327, .aload 0, .iconst 169, .newarray .int, .checkcast 1328, .aload 0, .iconst 8, .newarray .int, .checkcast 1329, .aload 0, .iconst 4, .newarray .int, .checkcast 1330, .aload 0, .iconst 4, .newarray .int], 1094),
  (1094, [.checkcast 1331, .aload 0, .iconst 4, .newarray .int, .checkcast 1332, .aload 0, .iconst 4509, .newarray .int, .checkcast 1333, .aload 0, .iconst 12, .newarray .int, .checkcast 1335, .aload 0, .iconst 9, .newarray .int, .checkcast 1337, .aload 0, .iconst 3, .newarray .int, .checkcast 1338, .aload 0, .iconst 8, .newarray .int, .checkcast 1340, .aload 0, .iconst 10, .newarray .int, .checkcast 1342, .aload 0, .iconst 7776, .newarray .int, .checkcast 1343, .aload 0, .iconst 5, .newarray .int, .checkcast 1344, .aload 0, .iconst 2400, .newarray .int], 1174),
  (1174, [.checkcast 1348, .return_], 0)]
/-- 178: GriefWoodModel.undo()Z -/
def mb_178 : List (Nat × List Instr × Nat) := [(0, [.aload 0, .iconst 0, .putfield 1280, .aload 0, .getfield 1283, .ifCond .ne 14, .iconst 0, .freturn], 0),
  (14, [.aload 0, .aload 0, .getfield 1283, .iconst 1, .isub, .putfield 1283, .iconst 0, .istore 1], 26),
  (26, [.iload 1, .iconst 247, .if_icmp .ge 60, .aload 0, .instanceof 1281, .iload 1, .aload 0, .instanceof 1282, .iconst 247, .aload 0, .getfield 1283, .imul, .iload 1, .iadd, .iaload, .iastore, .iinc 1 1, .goto 26], 0),
  (60, [.iconst 1, .freturn], 0)]
/-- 179: GriefWoodModel.state(I)I -/
def mb_179 : List (Nat × List Instr × Nat) := [(0, [.aload 0, .iconst 0, .putfield 1280, .aload 0, .instanceof 1281, .iconst 1, .iaload, .istore 2, .aload 0, .instanceof 1281, .iconst 1, .iload 1, .iastore, .aload 0, .iconst 0, .putfield 1283, .iload 2, .ireturn], 0)]
/-- 180: GriefWoodModel.seeker(III)I -/
def mb_180 : List (Nat × List Instr × Nat) := [(0, [.aload 0, .iconst 0, .putfield 1280, .aload 0, .iload 1, .iconst 0, .iconst 99, .invokeinterface 181 11009, .ifCond .eq 34, .aload 0, .iload 2, .iload 3, .invokeinterface 182 11007, .ifCond .eq 34, .aload 0, .getfield 1286, .iconst 10, .if_icmp .ne 36], 34),
  (34, [.iconst (-1), .ireturn], 0),
  (36, [.iconst 197, .istore 4], 41),
  (41, [.iload 4, .iconst 247, .if_icmp .ge 72, .aload 0, .instanceof 1281, .iload 4, .aload 0, .getfield 1286, .iadd, .iconst 0, .iastore, .iload 4, .iconst 10, .iadd, .istore 4, .goto 41], 0),
  (72, [.aload 0, .instanceof 1287, .aload 0, .getfield 1286, .iload 1, .iastore, .aload 0, .instanceof 1281, .iconst 197, .aload 0, .getfield 1286, .iadd, .iload 2, .iastore, .aload 0, .instanceof 1281, .iconst 207, .aload 0, .getfield 1286, .iadd, .iload 3, .iastore, .aload 0, .aload 0, .getfield 1286, .iconst 1, .iadd, .putfield 1286, .aload 0, .iconst 0, .putfield 1283, .aload 0, .getfield 1286, .iconst 1, .isub, .ireturn], 0)]
/-- 181: GriefWoodModel.isIn(III)Z -/
def mb_181 : List (Nat × List Instr × Nat) := [(0, [.iload 1, .iload 2, .if_icmp .lt 14, .iload 1, .iload 3, .if_icmp .gt 14, .iconst 1, .goto 15], 0),
  (14, [.iconst 0], 15),
  (15, [.freturn], 0)]
/-- 182: GriefWoodModel.isCell(II)Z -/
def mb_182 : List (Nat × List Instr × Nat) := [(0, [.aload 0, .iload 1, .iconst 0, .iconst 7, .invokeinterface 181 11009, .ifCond .eq 26, .aload 0, .iload 2, .iconst 0, .iconst 7, .invokeinterface 181 11009, .ifCond .eq 26, .iconst 1, .goto 27], 0),
  (26, [.iconst 0], 27),
  (27, [.freturn], 0)]
/-- 183: GriefWoodModel.set(III)Z -/
def mb_183 : List (Nat × List Instr × Nat) := [(0, [.aload 0, .iconst 0, .putfield 1280, .iload 1, .iconst 2, .if_icmp .ne 22, .aload 0, .iload 3, .iconst 0, .iconst 9999, .invokeinterface 181 11009, .goto 65], 0),
  (22, [.aload 0, .iload 1, .iconst 0, .iconst 1, .invokeinterface 181 11009, .ifCond .eq 64, .aload 0, .iload 2, .invokeinterface 184 11005, .ifCond .eq 64, .aload 0, .iload 3, .iconst 0, .iload 1, .ifCond .ne 52, .iconst 99, .goto 54], 0),
  (52, [.iconst 9], 54),
  (54, [.invokeinterface 181 11009, .ifCond .eq 64, .iconst 1, .goto 65], 0),
  (64, [.iconst 0], 65),
  (65, [.istore 4, .iload 4, .ifCond .ne 74, .iconst 0, .freturn], 0),
  (74, [.iload 1, .ifCond .ne 85, .aload 0, .instanceof 1287, .iload 2, .iload 3, .iastore], 85),
  (85, [.iload 1, .iconst 1, .if_icmp .ne 101, .aload 0, .instanceof 1281, .iconst 217, .iload 2, .iadd, .iload 3, .iastore], 101),
  (101, [.iload 1, .iconst 2, .if_icmp .ne 113, .aload 0, .instanceof 1281, .iconst 3, .iload 3, .iastore], 113),
  (113, [.aload 0, .iconst 0, .putfield 1283, .iconst 1, .freturn], 0)]
/-- 184: GriefWoodModel.isSeeker(I)Z -/
def mb_184 : List (Nat × List Instr × Nat) := [(0, [.iload 1, .ifCond .lt 16, .iload 1, .aload 0, .getfield 1286, .if_icmp .ge 16, .iconst 1, .goto 17], 0),
  (16, [.iconst 0], 17),
  (17, [.freturn], 0)]
/-- 185: GriefWoodModel.feed(IIIII)I -/
def mb_185 : List (Nat × List Instr × Nat) := [(0, [.aload 0, .iconst 0, .putfield 1280, .aload 0, .getfield 1290, .iconst 380, .if_icmp .le 17, .iconst (-1), .ireturn], 0),
  (17, [.aload 0, .iload 1, .invokeinterface 186 11004, .aload 0, .iload 2, .invokeinterface 186 11004, .aload 0, .iload 3, .invokeinterface 186 11004, .aload 0, .iload 4, .invokeinterface 186 11004, .aload 0, .iload 5, .invokeinterface 186 11004, .aload 0, .getfield 1290, .ireturn], 0)]
/-- 186: GriefWoodModel.types(I)V -/
def mb_186 : List (Nat × List Instr × Nat) := [(0, [.iconst 24, .istore 2], 3),
  (3, [.iload 2, .ifCond .lt 39, .aload 0, .instanceof 1289, .aload 0, .getfield 1290, .iload 1, .iload 2, .ishr, .iconst 255, .iand, .iastore, .aload 0, .aload 0, .getfield 1290, .iconst 1, .iadd, .putfield 1290, .iinc 2 (-8), .goto 3], 0),
  (39, [.return_], 0)]
/-- 187: GriefWoodModel.end(I)Z -/
def mb_187 : List (Nat × List Instr × Nat) := [(0, [.aload 0, .iconst 0, .putfield 1280, .aload 0, .iload 1, .iconst 0, .aload 0, .getfield 1290, .invokeinterface 181 11009, .ifCond .ne 20, .iconst 0, .freturn], 0),
  (20, [.aload 0, .iload 1, .putfield 1290, .iconst 1, .freturn], 0)]
/-- 188: GriefWoodModel.text(I)I -/
def mb_188 : List (Nat × List Instr × Nat) := [(0, [.aload 0, .iconst 0, .putfield 1280, .aload 0, .iconst 0, .putfield 1310, .aload 0, .iconst (-1), .putfield 1311, .aload 0, .iconst 0, .putfield 1291, .aload 0, .iconst 0, .putfield 1304, .aload 0, .iconst 0, .putfield 1305, .iconst (-1), .istore 2, .aload 0, .iload 1, .iconst 0, .iconst 3, .invokeinterface 181 11009, .ifCond .eq 69, .aload 0, .iload 1, .invokeinterface 189 11005, .istore 2, .iload 2, .iconst (-1), .if_icmp .ne 69, .aload 0, .aload 0, .getfield 1308, .putfield 1310, .aload 0, .aload 0, .getfield 1309], 66),
  (66, [.putfield 1311], 69),
  (69, [.aload 0, .iconst 0, .putfield 1290, .iload 2, .iconst (-1), .if_icmp .ne 81, .iconst (-1), .ireturn], 0),
  (81, [.iload 1, .ifCond .ne 93, .aload 0, .iload 2, .invokeinterface 220 11004, .goto 99], 0),
  (93, [.aload 0, .iload 1, .iload 2, .invokeinterface 221 11006], 99),
  (99, [.iload 2, .ireturn], 0)]
/-- 189: GriefWoodModel.readsText(I)I -/
def mb_189 : List (Nat × List Instr × Nat) := [(0, [.aload 0, .iconst 0, .putfield 1303, .aload 0, .invokeinterface 190 11002, .iload 1, .iconst 1, .if_icmp .ne 19, .aload 0, .invokeinterface 196 11003, .ireturn], 0),
  (19, [.iload 1, .iconst 2, .if_icmp .ne 29, .aload 0, .invokeinterface 205 11003, .ireturn], 0),
  (29, [.iload 1, .iconst 3, .if_icmp .ne 41, .aload 0, .invokeinterface 207 11003, .goto 45], 0),
  (41, [.aload 0, .invokeinterface 209 11003], 45),
  (45, [.ireturn], 0)]
/-- 190: GriefWoodModel.reads()V -/
def mb_190 : List (Nat × List Instr × Nat) := [(0, [.aload 0, .aload 0, .getfield 1291, .invokeinterface 191 11005, .iconst 32, .if_icmp .eq 26, .aload 0, .aload 0, .getfield 1291, .invokeinterface 191 11005, .iconst 10, .if_icmp .ne 39], 26),
  (26, [.aload 0, .aload 0, .getfield 1291, .iconst 1, .iadd, .putfield 1291, .goto 0], 0),
  (39, [.aload 0, .aload 0, .getfield 1291, .putfield 1292, .aload 0, .iconst 1, .putfield 1293, .aload 0, .aload 0, .getfield 1291, .invokeinterface 191 11005, .istore 1, .iload 1, .iconst (-1), .if_icmp .ne 72, .aload 0, .iconst 0, .putfield 1293, .return_], 0),
  (72, [.aload 0, .aload 0, .getfield 1291, .iconst 1, .iadd, .putfield 1291, .aload 0, .iload 1, .putfield 1294, .aload 0, .iload 1, .invokeinterface 192 11005, .ifCond .eq 155], 95),
  (95, [.aload 0, .aload 0, .aload 0, .getfield 1291, .invokeinterface 191 11005, .invokeinterface 192 11005, .ifCond .eq 123, .aload 0, .aload 0, .getfield 1291, .iconst 1, .iadd, .putfield 1291, .goto 95], 0),
  (123, [.aload 0, .aload 0, .aload 0, .getfield 1292, .aload 0, .getfield 1291, .invokeinterface 193 11007, .putfield 1294, .aload 0, .getfield 1294, .iconst (-1), .if_icmp .eq 273, .aload 0, .iconst 2, .putfield 1293, .goto 273], 0),
  (155, [.aload 0, .iload 1, .invokeinterface 194 11005, .ifCond .eq 260, .aload 0, .iload 1, .iconst 48, .isub, .putfield 1294], 171),
  (171, [.aload 0, .aload 0, .aload 0, .getfield 1291, .invokeinterface 191 11005, .invokeinterface 194 11005, .ifCond .eq 239, .aload 0, .aload 0, .getfield 1294, .iconst 10000, .if_icmp .ge 219, .iconst 10, .aload 0, .getfield 1294, .imul, .aload 0, .aload 0, .getfield 1291, .invokeinterface 191 11005, .iadd, .iconst 48, .isub, .goto 223], 0),
  (219, [.aload 0, .getfield 1294], 223),
  (223, [.putfield 1294, .aload 0, .aload 0, .getfield 1291, .iconst 1, .iadd, .putfield 1291, .goto 171], 0),
  (239, [.aload 0, .getfield 1291, .aload 0, .getfield 1292, .isub, .iconst 5, .if_icmp .ge 273, .aload 0, .iconst 3, .putfield 1293, .goto 273], 0),
  (260, [.aload 0, .iload 1, .invokeinterface 195 11005, .ifCond .eq 273, .aload 0, .iconst 4, .putfield 1293], 273),
  (273, [.return_], 0)]
/-- 191: GriefWoodModel.raw(I)I -/
def mb_191 : List (Nat × List Instr × Nat) := [(0, [.iload 1, .aload 0, .getfield 1290, .if_icmp .ge 17, .aload 0, .instanceof 1289, .iload 1, .iaload, .goto 18], 0),
  (17, [.iconst (-1)], 18),
  (18, [.ireturn], 0)]
/-- 192: GriefWoodModel.isLetter(I)Z -/
def mb_192 : List (Nat × List Instr × Nat) := [(0, [.aload 0, .iload 1, .iconst 97, .iconst 122, .invokeinterface 181 11009, .ifCond .ne 24, .aload 0, .iload 1, .iconst 65, .iconst 90, .invokeinterface 181 11009, .ifCond .eq 28], 24),
  (24, [.iconst 1, .goto 29], 0),
  (28, [.iconst 0], 29),
  (29, [.freturn], 0)]
/-- 193: GriefWoodModel.wordAt(II)I -/
def mb_193 : List (Nat × List Instr × Nat) := [(0, [.iconst (-1), .istore 3, .iconst 0, .istore 4], 5),
  (5, [.iload 4, .iconst 137, .if_icmp .ge 118, .iconst 0, .istore 5, .iload 3, .iconst 1, .iadd, .istore 3], 20),
  (20, [.iload 1, .iload 5, .iadd, .iload 2, .if_icmp .ge 61, .aload 0, .instanceof 1295, .iload 4, .iconst 1, .iadd, .iload 5, .iadd, .iaload, .aload 0, .instanceof 1289, .iload 1, .iload 5, .iadd, .iaload, .if_icmp .ne 61, .iload 5, .iconst 1, .iadd, .istore 5, .goto 20], 0),
  (61, [.iload 1, .iload 5, .iadd, .iload 2, .if_icmp .ne 88, .aload 0, .instanceof 1295, .iload 4, .iconst 1, .iadd, .iload 5, .iadd, .iaload, .iconst 32, .if_icmp .ne 88, .iload 3, .ireturn], 0),
  (88, [.iload 4, .iconst 1, .iadd, .istore 4], 94),
  (94, [.aload 0, .instanceof 1295, .iload 4, .iaload, .iconst 32, .if_icmp .eq 115, .iload 4, .iconst 1, .iadd, .istore 4, .goto 94], 0),
  (115, [.goto 5], 0),
  (118, [.iconst (-1), .ireturn], 0)]
/-- 194: GriefWoodModel.isDigit(I)Z -/
def mb_194 : List (Nat × List Instr × Nat) := [(0, [.aload 0, .iload 1, .iconst 48, .iconst 57, .invokeinterface 181 11009, .freturn], 0)]
/-- 195: GriefWoodModel.isMarkSign(I)Z -/
def mb_195 : List (Nat × List Instr × Nat) := [(0, [.iload 1, .iconst 59, .if_icmp .eq 60, .iload 1, .iconst 43, .if_icmp .eq 60, .iload 1, .iconst 45, .if_icmp .eq 60, .iload 1, .iconst 42, .if_icmp .eq 60, .iload 1, .iconst 47, .if_icmp .eq 60, .iload 1, .iconst 40, .if_icmp .eq 60, .iload 1, .iconst 41, .if_icmp .eq 60, .iload 1, .iconst 60, .if_icmp .eq 60, .iload 1, .iconst 61, .if_icmp .eq 60, .iload 1, .iconst 62, .if_icmp .ne 64], 60),
  (60, [.iconst 1, .goto 65], 0),
  (64, [.iconst 0], 65),
  (65, [.freturn], 0)]
/-- 196: GriefWoodModel.readMornings()I -/
def mb_196 : List (Nat × List Instr × Nat) := [(0, [.iconst 0, .istore 1], 2),
  (2, [.aload 0, .iconst 17, .invokeinterface 197 11005, .ifCond .eq 46, .iload 1, .iconst 16, .if_icmp .ne 23, .aload 0, .iconst 3, .invokeinterface 198 11005, .ireturn], 0),
  (23, [.aload 0, .iconst 64, .iconst 4, .iload 1, .imul, .iadd, .invokeinterface 199 11005, .iconst (-1), .if_icmp .ne 39, .iconst (-1), .ireturn], 0),
  (39, [.iload 1, .iconst 1, .iadd, .istore 1, .goto 2], 0),
  (46, [.aload 0, .getfield 1293, .ifCond .ne 57, .iload 1, .goto 62], 0),
  (57, [.aload 0, .iconst 1, .invokeinterface 198 11005], 62),
  (62, [.ireturn], 0)]
/-- 197: GriefWoodModel.isWord(I)Z -/
def mb_197 : List (Nat × List Instr × Nat) := [(0, [.aload 0, .getfield 1293, .iconst 2, .if_icmp .ne 20, .aload 0, .getfield 1294, .iload 1, .if_icmp .ne 20, .iconst 1, .goto 21], 0),
  (20, [.iconst 0], 21),
  (21, [.freturn], 0)]
/-- 198: GriefWoodModel.errs(I)I -/
def mb_198 : List (Nat × List Instr × Nat) := [(0, [.aload 0, .iload 1, .putfield 1308, .aload 0, .aload 0, .getfield 1292, .putfield 1309, .iconst (-1), .ireturn], 0)]
/-- 199: GriefWoodModel.readDeed(I)I -/
def mb_199 : List (Nat × List Instr × Nat) := [(0, [.aload 0, .instanceof 1313, .iload 1, .aload 0, .iconst 17, .iconst 0, .iconst 999, .invokeinterface 200 11009, .iastore, .aload 0, .instanceof 1313, .iload 1, .iaload, .iconst (-1), .if_icmp .ne 28, .iconst (-1), .ireturn], 0),
  (28, [.aload 0, .instanceof 1313, .iload 1, .iconst 1, .iadd, .aload 0, .iconst 18, .iconst 0, .aload 0, .getfield 1286, .iconst 1, .isub, .invokeinterface 200 11009, .iastore, .aload 0, .instanceof 1313, .iload 1, .iconst 1, .iadd, .iaload, .iconst (-1), .if_icmp .ne 63, .iconst (-1), .ireturn], 0),
  (63, [.aload 0, .getfield 1293, .iconst 2, .if_icmp .ne 86, .aload 0, .aload 0, .getfield 1294, .iconst 19, .iconst 22, .invokeinterface 181 11009, .ifCond .ne 92], 86),
  (86, [.aload 0, .iconst 1, .invokeinterface 198 11005, .ireturn], 0),
  (92, [.aload 0, .getfield 1294, .iconst 19, .isub, .istore 2, .aload 0, .invokeinterface 190 11002, .aload 0, .instanceof 1313, .iload 1, .iconst 2, .iadd, .iload 2, .iastore, .aload 0, .instanceof 1313, .iload 1, .iconst 3, .iadd, .iload 2, .iconst 3, .if_icmp .ne 132, .aload 0, .invokeinterface 202 11003, .goto 148], 0),
  (132, [.aload 0, .iconst 1, .iload 2, .ifCond .ne 143, .iconst 20, .goto 145], 0),
  (143, [.iconst 9], 145),
  (145, [.invokeinterface 201 11007], 148),
  (148, [.iastore, .aload 0, .instanceof 1313, .iload 1, .iconst 3, .iadd, .iaload, .iconst (-1), .if_icmp .ne 165, .iconst (-1), .goto 171], 0),
  (165, [.aload 0, .iconst 59, .invokeinterface 203 11005], 171),
  (171, [.ireturn], 0)]
/-- 200: GriefWoodModel.readTold(III)I -/
def mb_200 : List (Nat × List Instr × Nat) := [(0, [.aload 0, .iload 1, .invokeinterface 197 11005, .ifCond .ne 14, .aload 0, .iconst 1, .invokeinterface 198 11005, .ireturn], 0),
  (14, [.aload 0, .invokeinterface 190 11002, .aload 0, .iload 2, .iload 3, .invokeinterface 201 11007, .ireturn], 0)]
/-- 201: GriefWoodModel.readNumber(II)I -/
def mb_201 : List (Nat × List Instr × Nat) := [(0, [.aload 0, .getfield 1293, .iconst 3, .if_icmp .eq 14, .aload 0, .iconst 1, .invokeinterface 198 11005, .ireturn], 0),
  (14, [.aload 0, .aload 0, .getfield 1294, .iload 1, .iload 2, .invokeinterface 181 11009, .ifCond .ne 33, .aload 0, .iconst 2, .invokeinterface 198 11005, .ireturn], 0),
  (33, [.aload 0, .getfield 1294, .istore 3, .aload 0, .invokeinterface 190 11002, .iload 3, .ireturn], 0)]
/-- 202: GriefWoodModel.readCell()I -/
def mb_202 : List (Nat × List Instr × Nat) := [(0, [.aload 0, .iconst 0, .iconst 7, .invokeinterface 201 11007, .istore 1, .iload 1, .iconst (-1), .if_icmp .ne 15, .iconst (-1), .ireturn], 0),
  (15, [.aload 0, .iconst 0, .iconst 7, .invokeinterface 201 11007, .istore 2, .iload 2, .iconst (-1), .if_icmp .ne 32, .iconst (-1), .goto 38], 0),
  (32, [.iconst 8, .iload 2, .imul, .iload 1, .iadd], 38),
  (38, [.ireturn], 0)]
/-- 203: GriefWoodModel.readMark(I)I -/
def mb_203 : List (Nat × List Instr × Nat) := [(0, [.aload 0, .iload 1, .invokeinterface 204 11005, .ifCond .ne 14, .aload 0, .iconst 1, .invokeinterface 198 11005, .ireturn], 0),
  (14, [.aload 0, .invokeinterface 190 11002, .iconst 0, .ireturn], 0)]
/-- 204: GriefWoodModel.isSign(I)Z -/
def mb_204 : List (Nat × List Instr × Nat) := [(0, [.aload 0, .getfield 1293, .iconst 4, .if_icmp .ne 20, .aload 0, .getfield 1294, .iload 1, .if_icmp .ne 20, .iconst 1, .goto 21], 0),
  (20, [.iconst 0], 21),
  (21, [.freturn], 0)]
/-- 205: GriefWoodModel.readWood()I -/
def mb_205 : List (Nat × List Instr × Nat) := [(0, [.iconst 0, .istore 1], 2),
  (2, [.aload 0, .iconst 23, .invokeinterface 197 11005, .ifCond .eq 41, .iload 1, .iconst 16, .if_icmp .ne 23, .aload 0, .iconst 3, .invokeinterface 198 11005, .ireturn], 0),
  (23, [.aload 0, .iload 1, .invokeinterface 206 11005, .iconst (-1), .if_icmp .ne 34, .iconst (-1), .ireturn], 0),
  (34, [.iload 1, .iconst 1, .iadd, .istore 1, .goto 2], 0),
  (41, [.aload 0, .getfield 1293, .ifCond .ne 52, .iload 1, .goto 57], 0),
  (52, [.aload 0, .iconst 1, .invokeinterface 198 11005], 57),
  (57, [.ireturn], 0)]
/-- 206: GriefWoodModel.readWoodLine(I)I -/
def mb_206 : List (Nat × List Instr × Nat) := [(0, [.aload 0, .invokeinterface 190 11002, .aload 0, .instanceof 1315, .iload 1, .aload 0, .invokeinterface 202 11003, .iastore, .aload 0, .instanceof 1315, .iload 1, .iaload, .iconst (-1), .if_icmp .ne 26, .iconst (-1), .ireturn], 0),
  (26, [.aload 0, .iconst 10, .invokeinterface 197 11005, .ifCond .eq 70, .aload 0, .invokeinterface 190 11002, .aload 0, .iconst 1, .iconst 9, .invokeinterface 201 11007, .istore 2, .iload 2, .iconst (-1), .if_icmp .ne 54, .iconst (-1), .ireturn], 0),
  (54, [.aload 0, .instanceof 1316, .iload 1, .iload 2, .iconst 1, .iadd, .iastore, .aload 0, .iconst 59, .invokeinterface 203 11005, .ireturn], 0),
  (70, [.aload 0, .iconst 9, .invokeinterface 197 11005, .ifCond .ne 94, .aload 0, .iconst 24, .invokeinterface 197 11005, .ifCond .ne 94, .aload 0, .iconst 1, .invokeinterface 198 11005, .ireturn], 0),
  (94, [.aload 0, .instanceof 1316, .iload 1, .aload 0, .iconst 9, .invokeinterface 197 11005, .ifCond .eq 112, .iconst 0, .goto 113], 0),
  (112, [.iconst 1], 113),
  (113, [.iastore, .aload 0, .invokeinterface 190 11002, .aload 0, .iconst 59, .invokeinterface 203 11005, .ireturn], 0)]
/-- 207: GriefWoodModel.readTables()I -/
def mb_207 : List (Nat × List Instr × Nat) := [(0, [.iconst 0, .istore 1], 2),
  (2, [.aload 0, .iconst 17, .invokeinterface 197 11005, .ifCond .eq 46, .iload 1, .iconst 16, .if_icmp .ne 23, .aload 0, .iconst 3, .invokeinterface 198 11005, .ireturn], 0),
  (23, [.aload 0, .iconst 48, .iconst 3, .iload 1, .imul, .iadd, .invokeinterface 208 11005, .iconst (-1), .if_icmp .ne 39, .iconst (-1), .ireturn], 0),
  (39, [.iload 1, .iconst 1, .iadd, .istore 1, .goto 2], 0),
  (46, [.aload 0, .getfield 1293, .ifCond .ne 57, .iload 1, .goto 62], 0),
  (57, [.aload 0, .iconst 1, .invokeinterface 198 11005], 62),
  (62, [.ireturn], 0)]
/-- 208: GriefWoodModel.readTable(I)I -/
def mb_208 : List (Nat × List Instr × Nat) := [(0, [.aload 0, .instanceof 1318, .iload 1, .aload 0, .iconst 17, .iconst 0, .iconst 999, .invokeinterface 200 11009, .iastore, .aload 0, .instanceof 1318, .iload 1, .iaload, .iconst (-1), .if_icmp .ne 28, .iconst (-1), .ireturn], 0),
  (28, [.aload 0, .instanceof 1318, .iload 1, .iconst 1, .iadd, .aload 0, .iconst 25, .iconst 1, .iconst 99, .invokeinterface 200 11009, .iastore, .aload 0, .instanceof 1318, .iload 1, .iconst 1, .iadd, .iaload, .iconst (-1), .if_icmp .ne 59, .iconst (-1), .ireturn], 0),
  (59, [.aload 0, .instanceof 1318, .iload 1, .iconst 2, .iadd, .aload 0, .iconst 2, .iconst 1, .iconst 999, .invokeinterface 200 11009, .iastore, .aload 0, .instanceof 1318, .iload 1, .iconst 2, .iadd, .iaload, .iconst (-1), .if_icmp .ne 92, .iconst (-1), .goto 98], 0),
  (92, [.aload 0, .iconst 59, .invokeinterface 203 11005], 98),
  (98, [.ireturn], 0)]
/-- 209: GriefWoodModel.readLaw()I -/
def mb_209 : List (Nat × List Instr × Nat) := [(0, [.iconst 0, .istore 1], 2),
  (2, [.aload 0, .invokeinterface 210 11003, .ifCond .eq 128, .iload 1, .iconst 16, .if_icmp .ne 21, .aload 0, .iconst 3, .invokeinterface 198 11005, .ireturn], 0),
  (21, [.iconst 32, .iload 1, .iadd, .istore 2, .aload 0, .instanceof 1297, .iload 2, .aload 0, .getfield 1294, .iastore, .aload 0, .invokeinterface 190 11002, .aload 0, .instanceof 1298, .iload 2, .aload 0, .getfield 1304, .iastore, .aload 0, .invokeinterface 211 11003, .iconst (-1), .if_icmp .ne 60, .iconst (-1), .ireturn], 0),
  (60, [.aload 0, .instanceof 1299, .iload 2, .aload 0, .getfield 1304, .iastore, .aload 0, .iconst 3, .invokeinterface 197 11005, .ifCond .eq 92, .aload 0, .invokeinterface 190 11002, .aload 0, .invokeinterface 216 11003, .iconst (-1), .if_icmp .ne 92, .iconst (-1), .ireturn], 0),
  (92, [.aload 0, .instanceof 1300, .iload 2, .aload 0, .getfield 1304, .iastore, .aload 0, .iconst 59, .invokeinterface 204 11005, .ifCond .ne 117, .aload 0, .iconst 1, .invokeinterface 198 11005, .ireturn], 0),
  (117, [.aload 0, .invokeinterface 190 11002, .iload 1, .iconst 1, .iadd, .istore 1, .goto 2], 0),
  (128, [.aload 0, .getfield 1293, .ifCond .ne 139, .iload 1, .goto 144], 0),
  (139, [.aload 0, .iconst 1, .invokeinterface 198 11005], 144),
  (144, [.ireturn], 0)]
/-- 210: GriefWoodModel.isLineWord()Z -/
def mb_210 : List (Nat × List Instr × Nat) := [(0, [.aload 0, .getfield 1293, .iconst 2, .if_icmp .ne 25, .aload 0, .aload 0, .getfield 1294, .iconst 0, .iconst 2, .invokeinterface 181 11009, .ifCond .eq 25, .iconst 1, .goto 26], 0),
  (25, [.iconst 0], 26),
  (26, [.freturn], 0)]
/-- 211: GriefWoodModel.readSum()I -/
def mb_211 : List (Nat × List Instr × Nat) := [(0, [.aload 0, .invokeinterface 212 11003, .iconst (-1), .if_icmp .ne 10, .iconst (-1), .ireturn], 0),
  (10, [.aload 0, .iconst 43, .invokeinterface 204 11005, .ifCond .ne 28, .aload 0, .iconst 45, .invokeinterface 204 11005, .ifCond .eq 66], 28),
  (28, [.aload 0, .getfield 1294, .iconst 43, .if_icmp .ne 41, .iconst 2, .goto 42], 0),
  (41, [.iconst 3], 42),
  (42, [.istore 1, .aload 0, .invokeinterface 190 11002, .aload 0, .invokeinterface 212 11003, .iconst (-1), .if_icmp .ne 57, .iconst (-1), .ireturn], 0),
  (57, [.aload 0, .iload 1, .iconst 0, .invokeinterface 215 11006, .goto 10], 0),
  (66, [.iconst 0, .ireturn], 0)]
/-- 212: GriefWoodModel.readProduct()I -/
def mb_212 : List (Nat × List Instr × Nat) := [(0, [.aload 0, .invokeinterface 213 11003, .iconst (-1), .if_icmp .ne 10, .iconst (-1), .ireturn], 0),
  (10, [.aload 0, .iconst 42, .invokeinterface 204 11005, .ifCond .ne 28, .aload 0, .iconst 47, .invokeinterface 204 11005, .ifCond .eq 101], 28),
  (28, [.aload 0, .iconst 42, .invokeinterface 204 11005, .istore 1, .aload 0, .invokeinterface 190 11002, .iload 1, .ifCond .ne 57, .aload 0, .getfield 1293, .iconst 3, .if_icmp .eq 57, .aload 0, .iconst 1, .invokeinterface 198 11005, .ireturn], 0),
  (57, [.iload 1, .ifCond .ne 74, .aload 0, .getfield 1294, .ifCond .ne 74, .aload 0, .iconst 2, .invokeinterface 198 11005, .ireturn], 0),
  (74, [.aload 0, .invokeinterface 213 11003, .iconst (-1), .if_icmp .ne 84, .iconst (-1), .ireturn], 0),
  (84, [.aload 0, .iload 1, .ifCond .eq 93, .iconst 4, .goto 94], 0),
  (93, [.iconst 5], 94),
  (94, [.iconst 0, .invokeinterface 215 11006, .goto 10], 0),
  (101, [.iconst 0, .ireturn], 0)]
/-- 213: GriefWoodModel.readUnit()I -/
def mb_213 : List (Nat × List Instr × Nat) := [(0, [.aload 0, .getfield 1293, .iconst 2, .if_icmp .ne 23, .aload 0, .aload 0, .getfield 1294, .invokeinterface 214 11005, .ifCond .eq 23, .iconst 1, .goto 24], 0),
  (23, [.iconst 0], 24),
  (24, [.istore 1, .iload 1, .ifCond .ne 43, .aload 0, .getfield 1293, .iconst 3, .if_icmp .eq 43, .aload 0, .iconst 1, .invokeinterface 198 11005, .ireturn], 0),
  (43, [.aload 0, .iload 1, .ifCond .eq 52, .iconst 1, .goto 53], 0),
  (52, [.iconst 0], 53),
  (53, [.iload 1, .ifCond .eq 67, .aload 0, .getfield 1294, .iconst 7, .isub, .goto 71], 0),
  (67, [.aload 0, .getfield 1294], 71),
  (71, [.invokeinterface 215 11006, .aload 0, .invokeinterface 190 11002, .iconst 0, .ireturn], 0)]
/-- 214: GriefWoodModel.canAsk(I)Z -/
def mb_214 : List (Nat × List Instr × Nat) := [(0, [.aload 0, .iload 1, .iconst 7, .iconst 16, .invokeinterface 181 11009, .freturn], 0)]
/-- 215: GriefWoodModel.emits(II)V -/
def mb_215 : List (Nat × List Instr × Nat) := [(0, [.aload 0, .instanceof 1301, .iconst 800, .aload 0, .getfield 1304, .iadd, .iload 1, .iastore, .aload 0, .instanceof 1302, .iconst 800, .aload 0, .getfield 1304, .iadd, .iload 2, .iastore, .aload 0, .aload 0, .getfield 1304, .iconst 1, .iadd, .putfield 1304, .return_], 0)]
/-- 216: GriefWoodModel.readAny()I -/
def mb_216 : List (Nat × List Instr × Nat) := [(0, [.iconst 0, .istore 1, .aload 0, .iconst 0, .putfield 1307, .iconst 1, .istore 2], 9),
  (9, [.iload 2, .ifCond .eq 109, .aload 0, .iconst 6, .invokeinterface 197 11005, .istore 3, .iload 3, .ifCond .ne 33, .aload 0, .iconst 40, .invokeinterface 204 11005, .ifCond .eq 88], 33),
  (33, [.aload 0, .getfield 1305, .iconst 8, .if_icmp .ne 48, .aload 0, .iconst 3, .invokeinterface 198 11005, .ireturn], 0),
  (48, [.aload 0, .aload 0, .getfield 1305, .iconst 1, .iadd, .putfield 1305, .iload 3, .ifCond .ne 66, .iload 1, .iconst 1, .iadd, .istore 1], 66),
  (66, [.aload 0, .iload 3, .ifCond .eq 76, .iconst 9, .goto 78], 0),
  (76, [.iconst 12], 78),
  (78, [.invokeinterface 217 11004, .aload 0, .invokeinterface 190 11002, .goto 9], 0),
  (88, [.aload 0, .invokeinterface 218 11003, .iconst (-1), .if_icmp .ne 98, .iconst (-1), .ireturn], 0),
  (98, [.aload 0, .iconst 9, .invokeinterface 219 11004, .iconst 0, .istore 2, .goto 9], 0),
  (109, [.aload 0, .iconst 5, .invokeinterface 197 11005, .ifCond .eq 138, .aload 0, .iconst 10, .invokeinterface 219 11004, .aload 0, .iconst 10, .invokeinterface 217 11004, .aload 0, .invokeinterface 190 11002, .iconst 1, .istore 2, .goto 9], 0),
  (138, [.aload 0, .iconst 4, .invokeinterface 197 11005, .ifCond .eq 173, .aload 0, .iconst 10, .invokeinterface 219 11004, .aload 0, .iconst 11, .invokeinterface 219 11004, .aload 0, .iconst 11, .invokeinterface 217 11004, .aload 0, .invokeinterface 190 11002, .iconst 1, .istore 2, .goto 9], 0),
  (173, [.aload 0, .iconst 10, .invokeinterface 219 11004, .aload 0, .iconst 11, .invokeinterface 219 11004, .iload 1, .ifCond .ne 191, .iconst 0, .ireturn], 0),
  (191, [.aload 0, .iconst 41, .invokeinterface 204 11005, .ifCond .ne 206, .aload 0, .iconst 1, .invokeinterface 198 11005, .ireturn], 0),
  (206, [.aload 0, .aload 0, .getfield 1307, .iconst 1, .isub, .putfield 1307, .iload 1, .iconst 1, .isub, .istore 1, .aload 0, .aload 0, .getfield 1305, .iconst 1, .isub, .putfield 1305, .aload 0, .iconst 9, .invokeinterface 219 11004, .aload 0, .invokeinterface 190 11002, .goto 9], 0)]
/-- 217: GriefWoodModel.waits(I)V -/
def mb_217 : List (Nat × List Instr × Nat) := [(0, [.aload 0, .instanceof 1306, .aload 0, .getfield 1307, .iload 1, .iastore, .aload 0, .aload 0, .getfield 1307, .iconst 1, .iadd, .putfield 1307, .return_], 0)]
/-- 218: GriefWoodModel.readCompared()I -/
def mb_218 : List (Nat × List Instr × Nat) := [(0, [.aload 0, .invokeinterface 211 11003, .iconst (-1), .if_icmp .ne 10, .iconst (-1), .ireturn], 0),
  (10, [.aload 0, .iconst 60, .invokeinterface 204 11005, .ifCond .ne 43, .aload 0, .iconst 61, .invokeinterface 204 11005, .ifCond .ne 43, .aload 0, .iconst 62, .invokeinterface 204 11005, .ifCond .ne 43, .aload 0, .iconst 1, .invokeinterface 198 11005, .ireturn], 0),
  (43, [.aload 0, .getfield 1294, .iconst 60, .if_icmp .ne 57, .iconst 6, .goto 73], 0),
  (57, [.aload 0, .getfield 1294, .iconst 61, .if_icmp .ne 71, .iconst 7, .goto 73], 0),
  (71, [.iconst 8], 73),
  (73, [.istore 1, .aload 0, .invokeinterface 190 11002, .aload 0, .invokeinterface 211 11003, .iconst (-1), .if_icmp .ne 88, .iconst (-1), .ireturn], 0),
  (88, [.aload 0, .iload 1, .iconst 0, .invokeinterface 215 11006, .iconst 0, .ireturn], 0)]
/-- 219: GriefWoodModel.settles(I)V -/
def mb_219 : List (Nat × List Instr × Nat) := [(0, [.aload 0, .getfield 1307, .ifCond .le 57, .aload 0, .instanceof 1306, .aload 0, .getfield 1307, .iconst 1, .isub, .iaload, .iload 1, .if_icmp .ne 57, .aload 0, .aload 0, .getfield 1307, .iconst 1, .isub, .putfield 1307, .aload 0, .iload 1, .iconst 0, .invokeinterface 215 11006, .iload 1, .iconst 9, .if_icmp .ne 0, .aload 0, .aload 0, .getfield 1305, .iconst 1, .isub, .putfield 1305, .goto 0], 0),
  (57, [.return_], 0)]
/-- 220: GriefWoodModel.takesLaw(I)V -/
def mb_220 : List (Nat × List Instr × Nat) := [(0, [.iconst 0, .istore 2], 2),
  (2, [.iload 2, .iload 1, .if_icmp .ge 105, .aload 0, .instanceof 1297, .iconst 16, .aload 0, .getfield 1303, .imul, .iload 2, .iadd, .aload 0, .instanceof 1297, .iconst 32, .iload 2, .iadd, .iaload, .iastore, .aload 0, .instanceof 1298, .iconst 16, .aload 0, .getfield 1303, .imul, .iload 2, .iadd, .aload 0, .instanceof 1298, .iconst 32, .iload 2, .iadd, .iaload, .iastore, .aload 0, .instanceof 1299, .iconst 16, .aload 0, .getfield 1303, .imul, .iload 2], 65),
  (65, [.iadd, .aload 0, .instanceof 1299, .iconst 32, .iload 2, .iadd, .iaload, .iastore, .aload 0, .instanceof 1300, .iconst 16, .aload 0, .getfield 1303, .imul, .iload 2, .iadd, .aload 0, .instanceof 1300, .iconst 32, .iload 2, .iadd, .iaload, .iastore, .iinc 2 1, .goto 2], 0),
  (105, [.iconst 0, .istore 2], 107),
  (107, [.iload 2, .aload 0, .getfield 1304, .if_icmp .ge 171, .aload 0, .instanceof 1301, .iconst 400, .aload 0, .getfield 1303, .imul, .iload 2, .iadd, .aload 0, .instanceof 1301, .iconst 800, .iload 2, .iadd, .iaload, .iastore, .aload 0, .instanceof 1302, .iconst 400, .aload 0, .getfield 1303, .imul, .iload 2, .iadd, .aload 0, .instanceof 1302, .iconst 800, .iload 2, .iadd, .iaload, .iastore, .iinc 2 1, .goto 107], 0),
  (171, [.aload 0, .instanceof 1296, .aload 0, .getfield 1303, .iload 1, .iastore, .return_], 0)]
/-- 221: GriefWoodModel.takesOther(II)V -/
def mb_221 : List (Nat × List Instr × Nat) := [(0, [.iload 1, .iconst 1, .if_icmp .ne 40, .iconst 0, .istore 3], 7),
  (7, [.iload 3, .iconst 4, .iload 2, .imul, .if_icmp .ge 35, .aload 0, .instanceof 1313, .iload 3, .aload 0, .instanceof 1313, .iconst 64, .iload 3, .iadd, .iaload, .iastore, .iinc 3 1, .goto 7], 0),
  (35, [.aload 0, .iload 2, .putfield 1312], 40),
  (40, [.iload 1, .iconst 2, .if_icmp .ne 50, .aload 0, .iload 2, .invokeinterface 222 11004], 50),
  (50, [.iload 1, .iconst 3, .if_icmp .ne 90, .iconst 0, .istore 3], 57),
  (57, [.iload 3, .iconst 3, .iload 2, .imul, .if_icmp .ge 85, .aload 0, .instanceof 1318, .iload 3, .aload 0, .instanceof 1318, .iconst 48, .iload 3, .iadd, .iaload, .iastore, .iinc 3 1, .goto 57], 0),
  (85, [.aload 0, .iload 2, .putfield 1317], 90),
  (90, [.aload 0, .iconst 0, .putfield 1283, .return_], 0)]
/-- 222: GriefWoodModel.takesWood(I)V -/
def mb_222 : List (Nat × List Instr × Nat) := [(0, [.iconst 0, .istore 2], 2),
  (2, [.iload 2, .iload 1, .if_icmp .ge 84, .aload 0, .instanceof 1315, .iload 2, .iaload, .istore 3, .aload 0, .instanceof 1316, .iload 2, .iaload, .ifCond .ne 32, .aload 0, .instanceof 1281, .iconst 5, .iload 3, .iadd, .iconst 1, .iastore], 32),
  (32, [.aload 0, .instanceof 1316, .iload 2, .iaload, .iconst 1, .if_icmp .ne 51, .aload 0, .instanceof 1281, .iconst 5, .iload 3, .iadd, .iconst 0, .iastore], 51),
  (51, [.aload 0, .instanceof 1316, .iload 2, .iaload, .iconst 1, .if_icmp .le 78, .aload 0, .instanceof 1281, .iconst 69, .iload 3, .iadd, .aload 0, .instanceof 1316, .iload 2, .iaload, .iconst 1, .isub, .iastore], 78),
  (78, [.iinc 2 1, .goto 2], 0),
  (84, [.aload 0, .iload 1, .putfield 1314, .return_], 0)]
/-- 223: GriefWoodModel.fault(I)I -/
def mb_223 : List (Nat × List Instr × Nat) := [(0, [.aload 0, .iconst 0, .putfield 1280, .iload 1, .ifCond .ne 16, .aload 0, .getfield 1310, .goto 29], 0),
  (16, [.iload 1, .iconst 1, .if_icmp .ne 28, .aload 0, .getfield 1311, .goto 29], 0),
  (28, [.iconst (-1)], 29),
  (29, [.ireturn], 0)]
/-- 224: GriefWoodModel.act(II)Z -/
def mb_224 : List (Nat × List Instr × Nat) := [(0, [.aload 0, .iconst 0, .putfield 1280, .aload 0, .iload 1, .iload 2, .invokeinterface 225 11007, .ifCond .ne 16, .iconst 0, .freturn], 0),
  (16, [.aload 0, .invokeinterface 226 11002, .iload 1, .ifCond .ne 30, .aload 0, .iload 2, .invokeinterface 227 11005, .pop], 30),
  (30, [.iload 1, .iconst 1, .if_icmp .ne 57, .aload 0, .instanceof 1281, .iconst 217, .iload 2, .iadd, .aload 0, .instanceof 1281, .iconst 217, .iload 2, .iadd, .iaload, .iconst 1, .iadd, .iastore], 57),
  (57, [.iload 1, .iconst 2, .if_icmp .ne 84, .aload 0, .instanceof 1281, .iconst 217, .iload 2, .iadd, .aload 0, .instanceof 1281, .iconst 217, .iload 2, .iadd, .iaload, .iconst 1, .isub, .iastore], 84),
  (84, [.iload 1, .iconst 3, .if_icmp .ne 95, .aload 0, .iload 2, .invokeinterface 242 11005, .pop], 95),
  (95, [.iconst 1, .freturn], 0)]
/-- 225: GriefWoodModel.canAct(II)Z -/
def mb_225 : List (Nat × List Instr × Nat) := [(0, [.aload 0, .iload 2, .invokeinterface 184 11005, .ifCond .ne 10, .iconst 0, .freturn], 0),
  (10, [.iload 1, .ifCond .eq 57, .iload 1, .iconst 3, .if_icmp .eq 57, .iload 1, .iconst 1, .if_icmp .ne 39, .aload 0, .instanceof 1281, .iconst 217, .iload 2, .iadd, .iaload, .iconst 9, .if_icmp .lt 57], 39),
  (39, [.iload 1, .iconst 2, .if_icmp .ne 61, .aload 0, .instanceof 1281, .iconst 217, .iload 2, .iadd, .iaload, .ifCond .le 61], 57),
  (57, [.iconst 1, .goto 62], 0),
  (61, [.iconst 0], 62),
  (62, [.freturn], 0)]
/-- 226: GriefWoodModel.keepsAhead()V -/
def mb_226 : List (Nat × List Instr × Nat) := [(0, [.aload 0, .getfield 1283, .iconst 6, .if_icmp .ne 55, .aload 0, .aload 0, .getfield 1283, .iconst 1, .isub, .putfield 1283, .iconst 0, .istore 1], 21),
  (21, [.iload 1, .iconst 247, .aload 0, .getfield 1283, .imul, .if_icmp .ge 55, .aload 0, .instanceof 1282, .iload 1, .aload 0, .instanceof 1282, .iload 1, .iconst 247, .iadd, .iaload, .iastore, .iinc 1 1, .goto 21], 0),
  (55, [.iconst 0, .istore 1], 57),
  (57, [.iload 1, .iconst 247, .if_icmp .ge 91, .aload 0, .instanceof 1282, .iconst 247, .aload 0, .getfield 1283, .imul, .iload 1, .iadd, .aload 0, .instanceof 1281, .iload 1, .iaload, .iastore, .iinc 1 1, .goto 57], 0),
  (91, [.aload 0, .aload 0, .getfield 1283, .iconst 1, .iadd, .putfield 1283, .return_], 0)]
/-- 227: GriefWoodModel.isLed(I)I -/
def mb_227 : List (Nat × List Instr × Nat) := [(0, [.aload 0, .iload 1, .invokeinterface 228 11005, .istore 2, .aload 0, .instanceof 1281, .iconst 197, .iload 1, .iadd, .aload 0, .instanceof 1281, .iconst 197, .iload 1, .iadd, .iaload, .aload 0, .iload 2, .invokeinterface 229 11005, .iadd, .iastore, .aload 0, .instanceof 1281, .iconst 207, .iload 1, .iadd, .aload 0, .instanceof 1281, .iconst 207, .iload 1, .iadd, .iaload, .aload 0, .iload 2, .invokeinterface 230 11005, .iadd, .iastore, .aload 0, .aload 0, .iload 1, .aload 0], 62),
  (62, [.iload 1, .invokeinterface 238 11005, .invokeinterface 239 11007, .invokeinterface 240 11005, .ifCond .eq 83, .aload 0, .iload 1, .invokeinterface 242 11005, .goto 84], 0),
  (83, [.iconst 0], 84),
  (84, [.ireturn], 0)]
/-- 228: GriefWoodModel.wayOf(I)I -/
def mb_228 : List (Nat × List Instr × Nat) := [(0, [.iconst (-1), .istore 2, .iconst 0, .istore 3, .iconst 0, .istore 4], 7),
  (7, [.iload 4, .iconst 4, .if_icmp .ge 106, .aload 0, .instanceof 1281, .iconst 197, .iload 1, .iadd, .iaload, .aload 0, .iload 4, .invokeinterface 229 11005, .iadd, .istore 5, .aload 0, .instanceof 1281, .iconst 207, .iload 1, .iadd, .iaload, .aload 0, .iload 4, .invokeinterface 230 11005, .iadd, .istore 6, .aload 0, .iload 5, .iload 6, .invokeinterface 182 11007, .ifCond .ne 65, .goto 100], 0),
  (65, [.aload 0, .iload 1, .iconst 8, .iload 6, .imul, .iload 5, .iadd, .invokeinterface 231 11007, .istore 7, .iload 2, .iconst (-1), .if_icmp .eq 94, .iload 7, .iload 3, .if_icmp .gt 94, .goto 100], 0),
  (94, [.iload 4, .istore 2, .iload 7, .istore 3], 100),
  (100, [.iinc 4 1, .goto 7], 0),
  (106, [.iload 2, .ireturn], 0)]
/-- 229: GriefWoodModel.xTo(I)I -/
def mb_229 : List (Nat × List Instr × Nat) := [(0, [.iload 1, .iconst 1, .if_icmp .ne 9, .iconst 1, .goto 19], 0),
  (9, [.iload 1, .iconst 3, .if_icmp .ne 18, .iconst (-1), .goto 19], 0),
  (18, [.iconst 0], 19),
  (19, [.ireturn], 0)]
/-- 230: GriefWoodModel.yTo(I)I -/
def mb_230 : List (Nat × List Instr × Nat) := [(0, [.iload 1, .iconst 2, .if_icmp .ne 9, .iconst 1, .goto 18], 0),
  (9, [.iload 1, .ifCond .ne 17, .iconst (-1), .goto 18], 0),
  (17, [.iconst 0], 18),
  (18, [.ireturn], 0)]
/-- 231: GriefWoodModel.drawsTo(II)I -/
def mb_231 : List (Nat × List Instr × Nat) := [(0, [.aload 0, .iload 1, .iload 2, .invokeinterface 232 11006, .aload 0, .iconst 0, .aload 0, .instanceof 1319, .iconst 3, .iaload, .aload 0, .instanceof 1319, .iconst 0, .iaload, .imul, .iconst 10, .aload 0, .instanceof 1319, .iconst 1, .iaload, .imul, .isub, .iconst 5, .aload 0, .instanceof 1319, .iconst 2, .iaload, .imul, .iadd, .iconst (-9999), .iconst 9999, .invokeinterface 234 11011, .ireturn], 0)]
/-- 232: GriefWoodModel.asks(II)V -/
def mb_232 : List (Nat × List Instr × Nat) := [(0, [.aload 0, .instanceof 1319, .iconst 0, .aload 0, .instanceof 1287, .iload 1, .iaload, .iastore, .aload 0, .instanceof 1319, .iconst 1, .aload 0, .instanceof 1281, .iconst 217, .iload 1, .iadd, .iaload, .iastore, .aload 0, .instanceof 1319, .iconst 2, .aload 0, .instanceof 1281, .iconst 5, .iload 2, .iadd, .iaload, .iastore, .aload 0, .instanceof 1319, .iconst 3, .aload 0, .instanceof 1281, .iconst 69, .iload 2, .iadd, .iaload, .iastore, .aload 0, .instanceof 1319], 61),
  (61, [.iconst 4, .aload 0, .instanceof 1281, .iconst 133, .iload 2, .iadd, .iaload, .iastore, .aload 0, .instanceof 1319, .iconst 5, .iload 2, .iconst 8, .irem, .iastore, .aload 0, .instanceof 1319, .iconst 6, .iload 2, .iconst 8, .idiv, .iastore, .aload 0, .instanceof 1319, .iconst 7, .aload 0, .instanceof 1281, .iconst 227, .iload 1, .iadd, .iaload, .iastore, .aload 0, .instanceof 1319, .iconst 8, .aload 0, .aload 0, .instanceof 1281, .iconst 3, .iaload], 124),
  (124, [.iconst 0, .iconst 9999, .invokeinterface 233 11009, .iastore, .aload 0, .instanceof 1319, .iconst 9, .aload 0, .instanceof 1281, .iconst 0, .iaload, .iastore, .return_], 0)]
/-- 233: GriefWoodModel.held(III)I -/
def mb_233 : List (Nat × List Instr × Nat) := [(0, [.iload 1, .iload 2, .if_icmp .ge 9, .iload 2, .goto 19], 0),
  (9, [.iload 1, .iload 3, .if_icmp .le 18, .iload 3, .goto 19], 0),
  (18, [.iload 1], 19),
  (19, [.ireturn], 0)]
/-- 234: GriefWoodModel.lawTells(IIII)I -/
def mb_234 : List (Nat × List Instr × Nat) := [(0, [.aload 0, .iload 1, .invokeinterface 235 11005, .istore 5, .aload 0, .iload 5, .iconst (-1), .if_icmp .ne 18, .iload 2, .goto 37], 0),
  (18, [.aload 0, .iconst 0, .aload 0, .instanceof 1298, .iload 5, .iaload, .aload 0, .instanceof 1299, .iload 5, .iaload, .invokeinterface 236 11009], 37),
  (37, [.iload 3, .iload 4, .invokeinterface 233 11009, .ireturn], 0)]
/-- 235: GriefWoodModel.lineOf(I)I -/
def mb_235 : List (Nat × List Instr × Nat) := [(0, [.iconst 0, .istore 2], 2),
  (2, [.iload 2, .aload 0, .instanceof 1296, .iconst 0, .iaload, .if_icmp .ge 65, .aload 0, .instanceof 1297, .iload 2, .iaload, .iload 1, .if_icmp .ne 59, .aload 0, .instanceof 1299, .iload 2, .iaload, .aload 0, .instanceof 1300, .iload 2, .iaload, .if_icmp .eq 57, .aload 0, .iconst 0, .aload 0, .instanceof 1299, .iload 2, .iaload, .aload 0, .instanceof 1300, .iload 2, .iaload, .invokeinterface 236 11009, .ifCond .eq 59], 57),
  (57, [.iload 2, .ireturn], 0),
  (59, [.iinc 2 1, .goto 2], 0),
  (65, [.iconst (-1), .ireturn], 0)]
/-- 236: GriefWoodModel.runs(III)I -/
def mb_236 : List (Nat × List Instr × Nat) := [(0, [.iconst 0, .istore 4, .iconst 400, .iload 1, .imul, .iload 2, .iadd, .istore 5], 12),
  (12, [.iload 5, .iconst 400, .iload 1, .imul, .iload 3, .iadd, .if_icmp .ge 176, .aload 0, .instanceof 1301, .iload 5, .iaload, .ifCond .eq 45, .aload 0, .instanceof 1301, .iload 5, .iaload, .iconst 1, .if_icmp .ne 93], 45),
  (45, [.aload 0, .instanceof 1320, .iload 4, .aload 0, .instanceof 1301, .iload 5, .iaload, .ifCond .ne 71, .aload 0, .instanceof 1302, .iload 5, .iaload, .goto 83], 0),
  (71, [.aload 0, .instanceof 1319, .aload 0, .instanceof 1302, .iload 5, .iaload, .iaload], 83),
  (83, [.iastore, .iload 4, .iconst 1, .iadd, .istore 4, .goto 170], 0),
  (93, [.aload 0, .instanceof 1301, .iload 5, .iaload, .iconst 9, .if_icmp .ne 128, .aload 0, .instanceof 1320, .iload 4, .iconst 1, .isub, .iconst 1, .aload 0, .instanceof 1320, .iload 4, .iconst 1, .isub, .iaload, .isub, .iastore, .goto 170], 0),
  (128, [.iload 4, .iconst 1, .isub, .istore 4, .aload 0, .instanceof 1320, .iload 4, .iconst 1, .isub, .aload 0, .aload 0, .instanceof 1301, .iload 5, .iaload, .aload 0, .instanceof 1320, .iload 4, .iconst 1, .isub, .iaload, .aload 0, .instanceof 1320, .iload 4, .iaload, .invokeinterface 237 11009, .iastore], 170),
  (170, [.iinc 5 1, .goto 12], 0),
  (176, [.aload 0, .instanceof 1320, .iconst 0, .iaload, .ireturn], 0)]
/-- 237: GriefWoodModel.twoOf(III)I -/
def mb_237 : List (Nat × List Instr × Nat) := [(0, [.iload 1, .iconst 2, .if_icmp .ne 9, .iload 2, .iload 3, .iadd, .ireturn], 0),
  (9, [.iload 1, .iconst 3, .if_icmp .ne 18, .iload 2, .iload 3, .isub, .ireturn], 0),
  (18, [.iload 1, .iconst 4, .if_icmp .ne 27, .iload 2, .iload 3, .imul, .ireturn], 0),
  (27, [.iload 1, .iconst 5, .if_icmp .ne 36, .iload 2, .iload 3, .idiv, .ireturn], 0),
  (36, [.iload 1, .iconst 6, .if_icmp .ne 53, .iload 2, .iload 3, .if_icmp .ge 51, .iconst 1, .goto 52], 0),
  (51, [.iconst 0], 52),
  (52, [.ireturn], 0),
  (53, [.iload 1, .iconst 7, .if_icmp .ne 70, .iload 2, .iload 3, .if_icmp .ne 68, .iconst 1, .goto 69], 0),
  (68, [.iconst 0], 69),
  (69, [.ireturn], 0),
  (70, [.iload 1, .iconst 8, .if_icmp .ne 87, .iload 2, .iload 3, .if_icmp .le 85, .iconst 1, .goto 86], 0),
  (85, [.iconst 0], 86),
  (86, [.ireturn], 0),
  (87, [.iload 1, .iconst 10, .if_icmp .ne 99, .iload 2, .iload 3, .imul, .goto 110], 0),
  (99, [.iload 2, .iload 3, .iadd, .ifCond .le 109, .iconst 1, .goto 110], 0),
  (109, [.iconst 0], 110),
  (110, [.ireturn], 0)]
/-- 238: GriefWoodModel.cellOf(I)I -/
def mb_238 : List (Nat × List Instr × Nat) := [(0, [.iconst 8, .aload 0, .instanceof 1281, .iconst 207, .iload 1, .iadd, .iaload, .imul, .aload 0, .instanceof 1281, .iconst 197, .iload 1, .iadd, .iaload, .iadd, .ireturn], 0)]
/-- 239: GriefWoodModel.stopsOn(II)I -/
def mb_239 : List (Nat × List Instr × Nat) := [(0, [.aload 0, .iload 1, .iload 2, .invokeinterface 232 11006, .aload 0, .iconst 1, .iconst 10, .aload 0, .instanceof 1319, .iconst 0, .iaload, .imul, .iconst 100, .aload 0, .instanceof 1319, .iconst 1, .iaload, .imul, .isub, .iconst 0, .iconst 1000, .invokeinterface 234 11011, .ireturn], 0)]
/-- 240: GriefWoodModel.happens(I)Z -/
def mb_240 : List (Nat × List Instr × Nat) := [(0, [.aload 0, .getfield 1285, .ifCond .eq 24, .iconst 2, .iload 1, .imul, .iconst 1000, .if_icmp .lt 20, .iconst 1, .goto 44], 0),
  (20, [.iconst 0, .goto 44], 0),
  (24, [.iload 1, .ifCond .le 43, .aload 0, .iconst 1000, .invokeinterface 241 11005, .iload 1, .if_icmp .ge 43, .iconst 1, .goto 44], 0),
  (43, [.iconst 0], 44),
  (44, [.freturn], 0)]
/-- 241: GriefWoodModel.draw(I)I -/
def mb_241 : List (Nat × List Instr × Nat) := [(0, [.aload 0, .instanceof 1281, .iconst 1, .iconst 1664525, .aload 0, .instanceof 1281, .iconst 1, .iaload, .imul, .iconst 1013904223, .iadd, .iastore, .aload 0, .instanceof 1281, .iconst 1, .iaload, .iconst 8, .iushr, .iload 1, .irem, .ireturn], 0)]
/-- 242: GriefWoodModel.digs(I)I -/
def mb_242 : List (Nat × List Instr × Nat) := [(0, [.aload 0, .iload 1, .invokeinterface 238 11005, .istore 2, .aload 0, .instanceof 1281, .iconst 69, .iload 2, .iadd, .iaload, .istore 3, .aload 0, .instanceof 1281, .iconst 237, .iload 1, .iadd, .aload 0, .instanceof 1281, .iconst 237, .iload 1, .iadd, .iaload, .iconst 1, .iadd, .iastore, .aload 0, .instanceof 1281, .iconst 133, .iload 2, .iadd, .aload 0, .instanceof 1281, .iconst 133, .iload 2, .iadd, .iaload, .iconst 1, .iadd, .iastore, .iload 3], 61),
  (61, [.ifCond .ne 73, .aload 0, .iconst 1, .iload 1, .iload 2, .invokeinterface 243 11008, .iconst 0, .ireturn], 0),
  (73, [.aload 0, .instanceof 1281, .iconst 4, .aload 0, .instanceof 1281, .iconst 4, .iaload, .aload 0, .iload 1, .iload 2, .invokeinterface 244 11007, .iadd, .iastore, .aload 0, .instanceof 1281, .iconst 227, .iload 1, .iadd, .aload 0, .instanceof 1281, .iconst 227, .iload 1, .iadd, .iaload, .iload 3, .iadd, .iastore, .aload 0, .instanceof 1281, .iconst 3, .aload 0, .instanceof 1281, .iconst 3, .iaload, .iload 3, .iadd, .iastore, .aload 0, .instanceof 1281, .iconst 69], 134),
  (134, [.iload 2, .iadd, .iconst 0, .iastore, .aload 0, .iconst 0, .iload 1, .iload 3, .invokeinterface 243 11008, .iload 3, .ireturn], 0)]
/-- 243: GriefWoodModel.notes(III)V -/
def mb_243 : List (Nat × List Instr × Nat) := [(0, [.aload 0, .getfield 1285, .ifCond .ne 19, .aload 0, .instanceof 1281, .iconst 2, .iaload, .iconst 150, .if_icmp .ne 20], 19),
  (19, [.return_], 0),
  (20, [.iconst 4, .aload 0, .instanceof 1281, .iconst 2, .iaload, .imul, .istore 4, .aload 0, .instanceof 1288, .iload 4, .aload 0, .instanceof 1281, .iconst 0, .iaload, .iastore, .aload 0, .instanceof 1288, .iload 4, .iconst 1, .iadd, .iload 1, .iastore, .aload 0, .instanceof 1288, .iload 4, .iconst 2, .iadd, .iload 2, .iastore, .aload 0, .instanceof 1288, .iload 4, .iconst 3, .iadd, .iload 3, .iastore, .aload 0, .instanceof 1281, .iconst 2, .aload 0], 79),
  (79, [.instanceof 1281, .iconst 2, .iaload, .iconst 1, .iadd, .iastore, .return_], 0)]
/-- 244: GriefWoodModel.paysFor(II)I -/
def mb_244 : List (Nat × List Instr × Nat) := [(0, [.aload 0, .iload 1, .iload 2, .invokeinterface 232 11006, .aload 0, .iconst 2, .aload 0, .instanceof 1319, .iconst 3, .iaload, .iconst 0, .iconst 999, .invokeinterface 234 11011, .ireturn], 0)]
/-- 245: GriefWoodModel.mornings(I)I -/
def mb_245 : List (Nat × List Instr × Nat) := [(0, [.aload 0, .iconst 0, .putfield 1280, .aload 0, .iload 1, .iconst 1, .iconst 60, .invokeinterface 181 11009, .ifCond .eq 30, .aload 0, .instanceof 1281, .iconst 0, .iaload, .iload 1, .iadd, .iconst 9999, .if_icmp .le 32], 30),
  (30, [.iconst (-1), .ireturn], 0),
  (32, [.iconst 0, .istore 2, .iconst 0, .istore 3], 36),
  (36, [.iload 3, .iload 1, .if_icmp .ge 58, .aload 0, .invokeinterface 226 11002, .iload 2, .aload 0, .invokeinterface 246 11003, .iadd, .istore 2, .iinc 3 1, .goto 36], 0),
  (58, [.iload 2, .ireturn], 0)]
/-- 246: GriefWoodModel.goesBy()I -/
def mb_246 : List (Nat × List Instr × Nat) := [(0, [.iconst 0, .istore 1, .iconst 0, .istore 2], 4),
  (4, [.iload 2, .iconst 4, .aload 0, .getfield 1312, .imul, .if_icmp .ge 44, .aload 0, .instanceof 1313, .iload 2, .iaload, .aload 0, .instanceof 1281, .iconst 0, .iaload, .if_icmp .ne 37, .iload 1, .aload 0, .iload 2, .invokeinterface 247 11005, .iadd, .istore 1], 37),
  (37, [.iload 2, .iconst 4, .iadd, .istore 2, .goto 4], 0),
  (44, [.iconst 0, .istore 2], 46),
  (46, [.iload 2, .iconst 3, .aload 0, .getfield 1317, .imul, .if_icmp .ge 154, .aload 0, .instanceof 1318, .iload 2, .iaload, .aload 0, .instanceof 1281, .iconst 0, .iaload, .if_icmp .ne 147, .aload 0, .instanceof 1281, .iconst 3, .iaload, .aload 0, .instanceof 1318, .iload 2, .iconst 1, .iadd, .iaload, .if_icmp .ge 91, .goto 147], 0),
  (91, [.aload 0, .instanceof 1281, .iconst 3, .aload 0, .instanceof 1281, .iconst 3, .iaload, .aload 0, .instanceof 1318, .iload 2, .iconst 1, .iadd, .iaload, .isub, .iastore, .aload 0, .instanceof 1281, .iconst 4, .aload 0, .instanceof 1281, .iconst 4, .iaload, .aload 0, .instanceof 1318, .iload 2, .iconst 2, .iadd, .iaload, .iadd, .iastore, .aload 0, .iconst 2, .iconst (-1), .aload 0, .instanceof 1318, .iload 2, .iconst 2, .iadd, .iaload, .invokeinterface 243 11008], 147),
  (147, [.iload 2, .iconst 3, .iadd, .istore 2, .goto 46], 0),
  (154, [.aload 0, .instanceof 1281, .iconst 0, .aload 0, .instanceof 1281, .iconst 0, .iaload, .iconst 1, .iadd, .iastore, .iload 1, .ireturn], 0)]
/-- 247: GriefWoodModel.does(I)I -/
def mb_247 : List (Nat × List Instr × Nat) := [(0, [.aload 0, .instanceof 1313, .iload 1, .iconst 1, .iadd, .iaload, .istore 2, .aload 0, .instanceof 1313, .iload 1, .iconst 2, .iadd, .iaload, .istore 3, .aload 0, .instanceof 1313, .iload 1, .iconst 3, .iadd, .iaload, .istore 4, .iconst 0, .istore 5, .iconst 0, .istore 6], 34),
  (34, [.iload 6, .iload 4, .if_icmp .ge 61, .iload 3, .ifCond .ne 61, .iload 5, .aload 0, .iload 2, .invokeinterface 227 11005, .iadd, .istore 5, .iinc 6 1, .goto 34], 0),
  (61, [.iload 3, .iconst 1, .if_icmp .ne 95, .aload 0, .instanceof 1281, .iconst 217, .iload 2, .iadd, .aload 0, .iconst 9, .aload 0, .instanceof 1281, .iconst 217, .iload 2, .iadd, .iaload, .iload 4, .iadd, .invokeinterface 248 11007, .iastore], 95),
  (95, [.iload 3, .iconst 2, .if_icmp .ne 128, .aload 0, .instanceof 1281, .iconst 217, .iload 2, .iadd, .aload 0, .iconst 0, .aload 0, .instanceof 1281, .iconst 217, .iload 2, .iadd, .iaload, .iload 4, .isub, .invokeinterface 249 11007, .iastore], 128),
  (128, [.iload 3, .iconst 3, .if_icmp .ne 163, .aload 0, .instanceof 1281, .iconst 197, .iload 2, .iadd, .iload 4, .iconst 8, .irem, .iastore, .aload 0, .instanceof 1281, .iconst 207, .iload 2, .iadd, .iload 4, .iconst 8, .idiv, .iastore], 163),
  (163, [.iload 5, .ireturn], 0)]
/-- 248: GriefWoodModel.lesser(II)I -/
def mb_248 : List (Nat × List Instr × Nat) := [(0, [.iload 1, .iload 2, .if_icmp .ge 9, .iload 1, .goto 10], 0),
  (9, [.iload 2], 10),
  (10, [.ireturn], 0)]
/-- 249: GriefWoodModel.greater(II)I -/
def mb_249 : List (Nat × List Instr × Nat) := [(0, [.iload 1, .iload 2, .if_icmp .le 9, .iload 1, .goto 10], 0),
  (9, [.iload 2], 10),
  (10, [.ireturn], 0)]
/-- 250: GriefWoodModel.of(III)I -/
def mb_250 : List (Nat × List Instr × Nat) := [(0, [.aload 0, .iconst 0, .putfield 1280, .aload 0, .iload 1, .iload 2, .invokeinterface 182 11007, .ifCond .ne 18, .iconst (-10000), .ireturn], 0),
  (18, [.iconst 8, .iload 2, .imul, .iload 1, .iadd, .istore 4, .aload 0, .iload 3, .iconst 0, .iconst 2, .invokeinterface 181 11009, .ifCond .eq 51, .aload 0, .instanceof 1281, .iconst 5, .iconst 64, .iload 3, .imul, .iadd, .iload 4, .iadd, .iaload, .ireturn], 0),
  (51, [.iload 3, .iconst 3, .if_icmp .ne 63, .aload 0, .iload 4, .invokeinterface 251 11005, .ireturn], 0),
  (63, [.aload 0, .iload 3, .iconst 10, .iconst 9, .aload 0, .getfield 1286, .iadd, .invokeinterface 181 11009, .ifCond .eq 91, .aload 0, .iload 3, .iconst 10, .isub, .iload 4, .invokeinterface 231 11007, .ireturn], 0),
  (91, [.aload 0, .iload 3, .iconst 20, .iconst 19, .aload 0, .getfield 1286, .iadd, .invokeinterface 181 11009, .ifCond .eq 119, .aload 0, .iload 3, .iconst 20, .isub, .iload 4, .invokeinterface 239 11007, .ireturn], 0),
  (119, [.aload 0, .iload 3, .iconst 30, .iconst 29, .aload 0, .getfield 1286, .iadd, .invokeinterface 181 11009, .ifCond .eq 149, .aload 0, .iload 3, .iconst 30, .isub, .iload 4, .invokeinterface 244 11007, .goto 152], 0),
  (149, [.iconst (-10000)], 152),
  (152, [.ireturn], 0)]
/-- 251: GriefWoodModel.whoIsOn(I)I -/
def mb_251 : List (Nat × List Instr × Nat) := [(0, [.iconst 0, .istore 2, .iconst 0, .istore 3], 4),
  (4, [.iload 3, .aload 0, .getfield 1286, .if_icmp .ge 33, .aload 0, .iload 3, .invokeinterface 238 11005, .iload 1, .if_icmp .ne 27, .iload 2, .iconst 1, .iload 3, .ishl, .ior, .istore 2], 27),
  (27, [.iinc 3 1, .goto 4], 0),
  (33, [.iload 2, .ireturn], 0)]
/-- 252: GriefWoodModel.who(II)I -/
def mb_252 : List (Nat × List Instr × Nat) := [(0, [.aload 0, .iconst 0, .putfield 1280, .aload 0, .iload 1, .invokeinterface 184 11005, .ifCond .ne 15, .iconst (-1), .ireturn], 0),
  (15, [.iload 2, .ifCond .ne 26, .aload 0, .instanceof 1287, .iload 1, .iaload, .ireturn], 0),
  (26, [.aload 0, .iload 2, .iconst 1, .iconst 5, .invokeinterface 181 11009, .ifCond .eq 54, .aload 0, .instanceof 1281, .iconst 197, .iconst 10, .iload 2, .iconst 1, .isub, .imul, .iadd, .iload 1, .iadd, .iaload, .ireturn], 0),
  (54, [.iload 2, .iconst 6, .if_icmp .ne 68, .aload 0, .iload 1, .invokeinterface 228 11005, .goto 69], 0),
  (68, [.iconst (-1)], 69),
  (69, [.ireturn], 0)]
/-- 253: GriefWoodModel.book(II)I -/
def mb_253 : List (Nat × List Instr × Nat) := [(0, [.aload 0, .iconst 0, .putfield 1280, .aload 0, .iload 1, .iconst 0, .aload 0, .instanceof 1281, .iconst 2, .iaload, .iconst 1, .isub, .invokeinterface 181 11009, .ifCond .eq 45, .aload 0, .iload 2, .iconst 0, .iconst 3, .invokeinterface 181 11009, .ifCond .eq 45, .aload 0, .instanceof 1288, .iconst 4, .iload 1, .imul, .iload 2, .iadd, .iaload, .goto 47], 0),
  (45, [.iconst (-2)], 47),
  (47, [.ireturn], 0)]
/-- 254: GriefWoodModel.goes(II)I -/
def mb_254 : List (Nat × List Instr × Nat) := [(0, [.aload 0, .iconst 0, .putfield 1280, .aload 0, .iload 1, .iconst 1, .iconst 60, .invokeinterface 181 11009, .ifCond .eq 26, .aload 0, .iload 2, .iconst 0, .iconst 3, .invokeinterface 181 11009, .ifCond .ne 28], 26),
  (26, [.iconst (-1), .ireturn], 0),
  (28, [.aload 0, .invokeinterface 255 11002, .iconst 0, .istore 3], 34),
  (34, [.iload 3, .iload 1, .if_icmp .ge 50, .aload 0, .invokeinterface 246 11003, .pop, .iinc 3 1, .goto 34], 0),
  (50, [.iload 2, .ifCond .ne 68, .aload 0, .iconst 227, .aload 0, .getfield 1286, .invokeinterface 256 11007, .goto 105], 0),
  (68, [.iload 2, .iconst 1, .if_icmp .ne 82, .aload 0, .instanceof 1281, .iconst 4, .iaload, .goto 105], 0),
  (82, [.iload 2, .iconst 2, .if_icmp .ne 101, .aload 0, .iconst 237, .aload 0, .getfield 1286, .invokeinterface 256 11007, .goto 105], 0),
  (101, [.aload 0, .invokeinterface 257 11003], 105),
  (105, [.istore 3, .aload 0, .invokeinterface 258 11002, .iload 3, .ireturn], 0)]
/-- 255: GriefWoodModel.thinks()V -/
def mb_255 : List (Nat × List Instr × Nat) := [(0, [.iconst 0, .istore 1], 2),
  (2, [.iload 1, .iconst 247, .if_icmp .ge 27, .aload 0, .instanceof 1284, .iload 1, .aload 0, .instanceof 1281, .iload 1, .iaload, .iastore, .iinc 1 1, .goto 2], 0),
  (27, [.aload 0, .iconst 1, .putstatic 1285, .return_], 0)]
/-- 256: GriefWoodModel.sumOf(II)I -/
def mb_256 : List (Nat × List Instr × Nat) := [(0, [.iconst 0, .istore 3, .iconst 0, .istore 4], 5),
  (5, [.iload 4, .iload 2, .if_icmp .ge 29, .iload 3, .aload 0, .instanceof 1281, .iload 1, .iload 4, .iadd, .iaload, .iadd, .istore 3, .iinc 4 1, .goto 5], 0),
  (29, [.iload 3, .ireturn], 0)]
/-- 257: GriefWoodModel.trufflesThere()I -/
def mb_257 : List (Nat × List Instr × Nat) := [(0, [.iconst 0, .istore 1, .iconst 0, .istore 2], 4),
  (4, [.iload 2, .iconst 64, .if_icmp .ge 32, .aload 0, .instanceof 1281, .iconst 69, .iload 2, .iadd, .iaload, .ifCond .le 26, .iload 1, .iconst 1, .iadd, .istore 1], 26),
  (26, [.iinc 2 1, .goto 4], 0),
  (32, [.iload 1, .ireturn], 0)]
/-- 258: GriefWoodModel.endsThought()V -/
def mb_258 : List (Nat × List Instr × Nat) := [(0, [.iconst 0, .istore 1], 2),
  (2, [.iload 1, .iconst 247, .if_icmp .ge 27, .aload 0, .instanceof 1281, .iload 1, .aload 0, .instanceof 1284, .iload 1, .iaload, .iastore, .iinc 1 1, .goto 2], 0),
  (27, [.aload 0, .iconst 0, .putstatic 1285, .return_], 0)]
/-- 259: GriefWoodModel.led(III)I -/
def mb_259 : List (Nat × List Instr × Nat) := [(0, [.aload 0, .iconst 0, .putfield 1280, .aload 0, .iload 1, .invokeinterface 184 11005, .ifCond .eq 34, .aload 0, .iload 2, .iconst 1, .iconst 60, .invokeinterface 181 11009, .ifCond .eq 34, .aload 0, .iload 3, .iconst 0, .iconst 1, .invokeinterface 181 11009, .ifCond .ne 36], 34),
  (34, [.iconst (-1), .ireturn], 0),
  (36, [.aload 0, .invokeinterface 255 11002, .iconst 0, .istore 4, .iconst 0, .istore 5], 46),
  (46, [.iload 5, .iload 2, .if_icmp .ge 68, .iload 4, .aload 0, .iload 1, .invokeinterface 227 11005, .iadd, .istore 4, .iinc 5 1, .goto 46], 0),
  (68, [.iload 3, .ifCond .ne 77, .iload 4, .goto 82], 0),
  (77, [.aload 0, .iload 1, .invokeinterface 238 11005], 82),
  (82, [.istore 5, .aload 0, .invokeinterface 258 11002, .iload 5, .ireturn], 0)]
/-- 260: GriefWoodModel.through(I)I -/
def mb_260 : List (Nat × List Instr × Nat) := [(0, [.aload 0, .iconst 0, .putfield 1280, .aload 0, .iload 1, .iconst 0, .iconst 1, .invokeinterface 181 11009, .ifCond .ne 17, .iconst (-1), .ireturn], 0),
  (17, [.iconst 0, .istore 2], 19),
  (19, [.iload 2, .iconst 64, .if_icmp .ge 188, .iload 2, .iconst 8, .irem, .ifCond .ne 36, .iconst (-1), .goto 44], 0),
  (36, [.aload 0, .instanceof 1321, .iload 2, .iconst 1, .isub, .iaload], 44),
  (44, [.istore 3, .iload 2, .iconst 8, .if_icmp .ge 55, .iconst (-1), .goto 64], 0),
  (55, [.aload 0, .instanceof 1321, .iload 2, .iconst 8, .isub, .iaload], 64),
  (64, [.istore 4, .aload 0, .iload 3, .iload 4, .invokeinterface 249 11007, .istore 5, .aload 0, .instanceof 1321, .iload 2, .aload 0, .iconst 0, .iload 5, .invokeinterface 249 11007, .aload 0, .instanceof 1281, .iconst 69, .iload 2, .iadd, .iaload, .iadd, .iastore, .aload 0, .instanceof 1322, .iload 2, .iload 2, .ifCond .ne 111, .iconst 1, .goto 112], 0),
  (111, [.iconst 0], 112),
  (112, [.iastore, .iload 2, .iconst 8, .irem, .ifCond .le 147, .iload 3, .iload 5, .if_icmp .ne 147, .aload 0, .instanceof 1322, .iload 2, .aload 0, .instanceof 1322, .iload 2, .iaload, .aload 0, .instanceof 1322, .iload 2, .iconst 1, .isub, .iaload, .iadd, .iastore], 147),
  (147, [.iload 2, .iconst 8, .if_icmp .lt 182, .iload 4, .iload 5, .if_icmp .ne 182, .aload 0, .instanceof 1322, .iload 2, .aload 0, .instanceof 1322, .iload 2, .iaload, .aload 0, .instanceof 1322, .iload 2, .iconst 8, .isub, .iaload, .iadd, .iastore], 182),
  (182, [.iinc 2 1, .goto 19], 0),
  (188, [.iload 1, .ifCond .ne 202, .aload 0, .instanceof 1321, .iconst 63, .iaload, .goto 209], 0),
  (202, [.aload 0, .instanceof 1322, .iconst 63, .iaload], 209),
  (209, [.ireturn], 0)]
/-- 261: GriefWoodModel.meeting(I)I -/
def mb_261 : List (Nat × List Instr × Nat) := [(0, [.aload 0, .iconst 0, .putfield 1280, .aload 0, .iload 1, .iconst 0, .iconst 1, .invokeinterface 181 11009, .ifCond .ne 17, .iconst (-1), .ireturn], 0),
  (17, [.iconst 0, .istore 2, .iconst 1, .istore 3], 21),
  (21, [.iload 3, .iconst 64, .if_icmp .ge 48, .aload 0, .iload 3, .invokeinterface 262 11005, .aload 0, .iload 2, .invokeinterface 262 11005, .if_icmp .ge 42, .iload 3, .istore 2], 42),
  (42, [.iinc 3 1, .goto 21], 0),
  (48, [.iload 1, .ifCond .ne 60, .aload 0, .iload 2, .invokeinterface 262 11005, .goto 72], 0),
  (60, [.aload 0, .getfield 1286, .ifCond .ne 71, .iconst (-1), .goto 72], 0),
  (71, [.iload 2], 72),
  (72, [.ireturn], 0)]
/-- 262: GriefWoodModel.stepsTo(I)I -/
def mb_262 : List (Nat × List Instr × Nat) := [(0, [.iconst 0, .istore 2, .iconst 0, .istore 3], 4),
  (4, [.iload 3, .aload 0, .getfield 1286, .if_icmp .ge 60, .iload 2, .aload 0, .aload 0, .instanceof 1281, .iconst 197, .iload 3, .iadd, .iaload, .iload 1, .iconst 8, .irem, .isub, .invokeinterface 263 11005, .iadd, .aload 0, .aload 0, .instanceof 1281, .iconst 207, .iload 3, .iadd, .iaload, .iload 1, .iconst 8, .idiv, .isub, .invokeinterface 263 11005, .iadd, .istore 2, .iinc 3 1, .goto 4], 0),
  (60, [.iload 2, .ireturn], 0)]
/-- 263: GriefWoodModel.plain(I)I -/
def mb_263 : List (Nat × List Instr × Nat) := [(0, [.iload 1, .ifCond .ge 9, .iload 1, .ineg, .goto 10], 0),
  (9, [.iload 1], 10),
  (10, [.ireturn], 0)]
/-- 264: GriefWoodModel.stands(I)I -/
def mb_264 : List (Nat × List Instr × Nat) := [(0, [.aload 0, .iconst 0, .putfield 1280, .aload 0, .iload 1, .iconst 0, .iconst 2, .invokeinterface 181 11009, .ifCond .ne 17, .iconst (-1), .ireturn], 0),
  (17, [.iload 1, .iconst 2, .if_icmp .ne 27, .aload 0, .invokeinterface 265 11003, .ireturn], 0),
  (27, [.aload 0, .invokeinterface 267 11002, .iconst 0, .istore 2, .iconst 0, .istore 3, .iconst 0, .istore 4], 38),
  (38, [.iload 4, .iconst 64, .if_icmp .ge 59, .aload 0, .instanceof 1324, .iload 4, .iconst 0, .iastore, .iinc 4 1, .goto 38], 0),
  (59, [.iconst 0, .istore 4], 62),
  (62, [.iload 4, .iconst 64, .if_icmp .ge 150, .aload 0, .instanceof 1281, .iconst 5, .iload 4, .iadd, .iaload, .ifCond .ne 84, .goto 144], 0),
  (84, [.aload 0, .instanceof 1323, .iload 4, .iaload, .iload 4, .if_icmp .ne 100, .iload 2, .iconst 1, .iadd, .istore 2], 100),
  (100, [.aload 0, .instanceof 1324, .aload 0, .instanceof 1323, .iload 4, .iaload, .aload 0, .instanceof 1324, .aload 0, .instanceof 1323, .iload 4, .iaload, .iaload, .iconst 1, .iadd, .iastore, .aload 0, .iload 3, .aload 0, .instanceof 1324, .aload 0, .instanceof 1323, .iload 4, .iaload, .iaload, .invokeinterface 249 11007, .istore 3], 144),
  (144, [.iinc 4 1, .goto 62], 0),
  (150, [.iload 1, .ifCond .ne 158, .iload 2, .goto 159], 0),
  (158, [.iload 3], 159),
  (159, [.ireturn], 0)]
/-- 265: GriefWoodModel.openSides()I -/
def mb_265 : List (Nat × List Instr × Nat) := [(0, [.iconst 0, .istore 1, .iconst 0, .istore 2], 4),
  (4, [.iload 2, .iconst 64, .if_icmp .ge 72, .iconst 0, .istore 3], 12),
  (12, [.iload 3, .iconst 4, .if_icmp .ge 66, .aload 0, .instanceof 1281, .iconst 5, .iload 2, .iadd, .iaload, .iconst 1, .if_icmp .ne 60, .aload 0, .iload 2, .iconst 8, .irem, .aload 0, .iload 3, .invokeinterface 229 11005, .iadd, .iload 2, .iconst 8, .idiv, .aload 0, .iload 3, .invokeinterface 230 11005, .iadd, .invokeinterface 266 11007, .ifCond .ne 60, .iload 1, .iconst 1, .iadd, .istore 1], 60),
  (60, [.iinc 3 1, .goto 12], 0),
  (66, [.iinc 2 1, .goto 4], 0),
  (72, [.iload 1, .ireturn], 0)]
/-- 266: GriefWoodModel.isOak(II)Z -/
def mb_266 : List (Nat × List Instr × Nat) := [(0, [.aload 0, .iload 1, .iload 2, .invokeinterface 182 11007, .ifCond .eq 30, .aload 0, .instanceof 1281, .iconst 5, .iconst 8, .iload 2, .imul, .iadd, .iload 1, .iadd, .iaload, .iconst 1, .if_icmp .ne 30, .iconst 1, .goto 31], 0),
  (30, [.iconst 0], 31),
  (31, [.freturn], 0)]
/-- 267: GriefWoodModel.findsStands()V -/
def mb_267 : List (Nat × List Instr × Nat) := [(0, [.iconst 0, .istore 1], 2),
  (2, [.iload 1, .iconst 64, .if_icmp .ge 39, .aload 0, .instanceof 1323, .iload 1, .aload 0, .instanceof 1281, .iconst 5, .iload 1, .iadd, .iaload, .iconst 1, .if_icmp .ne 29, .iload 1, .goto 32], 0),
  (29, [.iconst 100000000], 32),
  (32, [.iastore, .iinc 1 1, .goto 2], 0),
  (39, [.iconst 1, .istore 1], 41),
  (41, [.iload 1, .ifCond .eq 169, .iconst 0, .istore 1, .iconst 0, .istore 2], 49),
  (49, [.iload 2, .iconst 64, .if_icmp .ge 166, .iconst 0, .istore 3], 57),
  (57, [.iload 3, .iconst 4, .if_icmp .ge 160, .iload 2, .iconst 8, .irem, .aload 0, .iload 3, .invokeinterface 229 11005, .iadd, .istore 4, .iload 2, .iconst 8, .idiv, .aload 0, .iload 3, .invokeinterface 230 11005, .iadd, .istore 5, .aload 0, .instanceof 1281, .iconst 5, .iload 2, .iadd, .iaload, .ifCond .eq 154, .aload 0, .iload 4, .iload 5, .invokeinterface 266 11007, .ifCond .eq 154, .aload 0, .instanceof 1323, .iconst 8, .iload 5, .imul, .iload 4, .iadd, .iaload, .aload 0], 122),
  (122, [.instanceof 1323, .iload 2, .iaload, .if_icmp .lt 133, .goto 154], 0),
  (133, [.aload 0, .instanceof 1323, .iload 2, .aload 0, .instanceof 1323, .iconst 8, .iload 5, .imul, .iload 4, .iadd, .iaload, .iastore, .iconst 1, .istore 1], 154),
  (154, [.iinc 3 1, .goto 57], 0),
  (160, [.iinc 2 1, .goto 49], 0),
  (166, [.goto 41], 0),
  (169, [.return_], 0)]
/-- 268: GriefWoodModel.finds(II)Z -/
def mb_268 : List (Nat × List Instr × Nat) := [(0, [.aload 0, .iconst 0, .putfield 1280, .aload 0, .iload 1, .iconst 1, .iconst 7, .invokeinterface 181 11009, .ifCond .eq 27, .aload 0, .iload 2, .iconst 0, .iconst 99, .invokeinterface 181 11009, .ifCond .ne 29], 27),
  (27, [.iconst 0, .freturn], 0),
  (29, [.aload 0, .instanceof 1325, .iload 1, .iload 2, .iastore, .iconst 1, .freturn], 0)]
/-- 269: GriefWoodModel.share(II)I -/
def mb_269 : List (Nat × List Instr × Nat) := [(0, [.aload 0, .iconst 0, .putfield 1280, .aload 0, .iload 1, .iconst 0, .iconst 2, .invokeinterface 181 11009, .ifCond .eq 25, .aload 0, .iload 2, .iconst 0, .iconst 1, .invokeinterface 181 11009, .ifCond .ne 29], 25),
  (25, [.iconst (-10000), .ireturn], 0),
  (29, [.iconst 0, .istore 3, .iconst 0, .istore 4], 34),
  (34, [.iload 4, .iconst 8, .if_icmp .ge 108, .aload 0, .iload 4, .iload 1, .invokeinterface 270 11007, .ifCond .eq 54, .goto 102], 0),
  (54, [.iload 4, .ifCond .eq 70, .iload 4, .iconst 7, .iconst 1, .iload 1, .ishl, .isub, .if_icmp .ne 74], 70),
  (70, [.iconst 2, .goto 75], 0),
  (74, [.iconst 1], 75),
  (75, [.istore 5, .iload 3, .iload 5, .aload 0, .instanceof 1325, .iload 4, .iconst 1, .iload 1, .ishl, .ior, .iaload, .aload 0, .instanceof 1325, .iload 4, .iaload, .isub, .imul, .iadd, .istore 3], 102),
  (102, [.iinc 4 1, .goto 34], 0),
  (108, [.aload 0, .iload 3, .iconst 6, .invokeinterface 271 11007, .istore 4, .iload 2, .ifCond .ne 128, .iload 3, .iload 4, .idiv, .goto 133], 0),
  (128, [.iconst 6, .iload 4, .idiv], 133),
  (133, [.ireturn], 0)]
/-- 270: GriefWoodModel.has(II)Z -/
def mb_270 : List (Nat × List Instr × Nat) := [(0, [.iload 1, .iload 2, .ishr, .iconst 1, .iand, .iconst 1, .if_icmp .ne 13, .iconst 1, .goto 14], 0),
  (13, [.iconst 0], 14),
  (14, [.freturn], 0)]
/-- 271: GriefWoodModel.common(II)I -/
def mb_271 : List (Nat × List Instr × Nat) := [(0, [.aload 0, .iload 1, .invokeinterface 263 11005, .istore 3, .aload 0, .iload 2, .invokeinterface 263 11005, .istore 4], 13),
  (13, [.iload 4, .ifCond .eq 34, .iload 3, .iload 4, .irem, .istore 5, .iload 4, .istore 3, .iload 5, .istore 4, .goto 13], 0),
  (34, [.iload 3, .ireturn], 0)]
/-- 272: GriefWoodModel.part(I)I -/
def mb_272 : List (Nat × List Instr × Nat) := [(0, [.aload 0, .iconst 0, .putfield 1280, .iload 1, .iconst (-1), .if_icmp .ne 17, .aload 0, .iconst 0, .putfield 1326, .iconst 0, .ireturn], 0),
  (17, [.aload 0, .iload 1, .iconst 1, .iconst 99, .invokeinterface 181 11009, .ifCond .eq 37, .aload 0, .getfield 1326, .iconst 12, .if_icmp .ne 39], 37),
  (37, [.iconst (-1), .ireturn], 0),
  (39, [.aload 0, .instanceof 1327, .aload 0, .getfield 1326, .iload 1, .iastore, .aload 0, .aload 0, .getfield 1326, .iconst 1, .iadd, .putfield 1326, .aload 0, .getfield 1326, .ireturn], 0)]
/-- 273: GriefWoodModel.cut(II)I -/
def mb_273 : List (Nat × List Instr × Nat) := [(0, [.aload 0, .iconst 0, .putfield 1280, .aload 0, .iload 1, .iconst 1, .iconst 12, .invokeinterface 181 11009, .ifCond .eq 26, .aload 0, .iload 2, .iconst 0, .iconst 1, .invokeinterface 181 11009, .ifCond .ne 28], 26),
  (26, [.iconst (-1), .ireturn], 0),
  (28, [.iconst 0, .istore 3], 30),
  (30, [.aload 0, .iload 1, .iload 3, .invokeinterface 274 11007, .ifCond .ne 46, .iload 3, .iconst 1, .iadd, .istore 3, .goto 30], 0),
  (46, [.iload 2, .ifCond .ne 54, .iload 3, .goto 60], 0),
  (54, [.aload 0, .iload 1, .iload 3, .invokeinterface 274 11007], 60),
  (60, [.ireturn], 0)]
/-- 274: GriefWoodModel.waysToCut(II)I -/
def mb_274 : List (Nat × List Instr × Nat) := [(0, [.iconst 0, .istore 3], 2),
  (2, [.iload 3, .aload 0, .getfield 1326, .if_icmp .gt 123, .iconst 0, .istore 4], 13),
  (13, [.iload 4, .iload 1, .if_icmp .gt 117, .iload 3, .ifCond .ne 32, .iload 4, .ifCond .ne 32, .iconst 1, .goto 33], 0),
  (32, [.iconst 0], 33),
  (33, [.istore 5, .iconst 0, .istore 6, .iload 3, .iconst 1, .isub, .istore 7], 43),
  (43, [.iload 7, .ifCond .lt 97, .iload 4, .ifCond .le 97, .iload 6, .aload 0, .instanceof 1327, .iload 7, .iaload, .iadd, .istore 6, .iload 6, .iload 2, .if_icmp .gt 91, .iload 5, .aload 0, .instanceof 1328, .iconst 13, .iload 7, .imul, .iload 4, .iadd, .iconst 1, .isub, .iaload, .iadd, .istore 5], 91),
  (91, [.iinc 7 (-1), .goto 43], 0),
  (97, [.aload 0, .instanceof 1328, .iconst 13, .iload 3, .imul, .iload 4, .iadd, .iload 5, .iastore, .iinc 4 1, .goto 13], 0),
  (117, [.iinc 3 1, .goto 2], 0),
  (123, [.iconst 0, .istore 3, .iconst 0, .istore 4], 128),
  (128, [.iload 4, .iload 1, .if_icmp .gt 158, .iload 3, .aload 0, .instanceof 1328, .iconst 13, .aload 0, .getfield 1326, .imul, .iload 4, .iadd, .iaload, .iadd, .istore 3, .iinc 4 1, .goto 128], 0),
  (158, [.iload 3, .ireturn], 0)]
/-- 275: GriefWoodModel.wish(III)Z -/
def mb_275 : List (Nat × List Instr × Nat) := [(0, [.aload 0, .iconst 0, .putfield 1280, .aload 0, .iload 1, .iconst 0, .iconst 1, .invokeinterface 181 11009, .ifCond .eq 37, .aload 0, .iload 2, .iconst 0, .iconst 3, .invokeinterface 181 11009, .ifCond .eq 37, .aload 0, .iload 3, .iconst 0, .iconst 3210, .invokeinterface 181 11009, .ifCond .ne 39], 37),
  (37, [.iconst 0, .freturn], 0),
  (39, [.iconst 0, .istore 4, .iload 3, .iconst 10000, .iadd, .istore 5], 49),
  (49, [.iload 5, .iconst 1, .if_icmp .le 91, .iload 4, .iload 5, .iconst 10, .irem, .iconst 3, .if_icmp .le 71, .iconst 32, .goto 78], 0),
  (71, [.iconst 1, .iload 5, .iconst 10, .irem, .ishl], 78),
  (78, [.ior, .istore 4, .iload 5, .iconst 10, .idiv, .istore 5, .goto 49], 0),
  (91, [.iload 4, .iconst 15, .if_icmp .eq 100, .iconst 0, .freturn], 0),
  (100, [.aload 0, .instanceof 1329, .iconst 4, .iload 1, .imul, .iload 2, .iadd, .iload 3, .iconst 123, .isub, .iastore, .iconst 1, .freturn], 0)]
/-- 276: GriefWoodModel.pairs(I)I -/
def mb_276 : List (Nat × List Instr × Nat) := [(0, [.aload 0, .iconst 0, .putfield 1280, .aload 0, .iload 1, .iconst 0, .iconst 1, .invokeinterface 181 11009, .ifCond .ne 17, .iconst (-1), .ireturn], 0),
  (17, [.iload 1, .iconst 1, .if_icmp .ne 27, .aload 0, .invokeinterface 277 11003, .ireturn], 0),
  (27, [.aload 0, .invokeinterface 281 11002, .iconst 1000, .aload 0, .instanceof 1330, .iconst 0, .iaload, .imul, .iconst 100, .aload 0, .instanceof 1330, .iconst 1, .iaload, .imul, .iadd, .iconst 10, .aload 0, .instanceof 1330, .iconst 2, .iaload, .imul, .iadd, .aload 0, .instanceof 1330, .iconst 3, .iaload, .iadd, .ireturn], 0)]
/-- 277: GriefWoodModel.waysToPair()I -/
def mb_277 : List (Nat × List Instr × Nat) := [(0, [.iconst 0, .istore 1, .iconst 0, .istore 2], 4),
  (4, [.iload 2, .iconst 256, .if_icmp .ge 78, .iconst 0, .istore 3, .iconst 0, .istore 4], 16),
  (16, [.iload 4, .iconst 4, .if_icmp .ge 55, .aload 0, .instanceof 1330, .iload 4, .iload 2, .iconst 2, .iload 4, .imul, .ishr, .iconst 3, .iand, .iastore, .iload 3, .iconst 1, .aload 0, .instanceof 1330, .iload 4, .iaload, .ishl, .ior, .istore 3, .iinc 4 1, .goto 16], 0),
  (55, [.iload 3, .iconst 15, .if_icmp .ne 72, .aload 0, .invokeinterface 278 11003, .ifCond .eq 72, .iload 1, .iconst 1, .iadd, .istore 1], 72),
  (72, [.iinc 2 1, .goto 4], 0),
  (78, [.iload 1, .ireturn], 0)]
/-- 278: GriefWoodModel.doesHold()Z -/
def mb_278 : List (Nat × List Instr × Nat) := [(0, [.iconst 0, .istore 1], 2),
  (2, [.iload 1, .iconst 4, .if_icmp .ge 25, .aload 0, .instanceof 1331, .aload 0, .instanceof 1330, .iload 1, .iaload, .iload 1, .iastore, .iinc 1 1, .goto 2], 0),
  (25, [.iconst 0, .istore 1], 27),
  (27, [.iload 1, .iconst 4, .if_icmp .ge 97, .iconst 0, .istore 2], 34),
  (34, [.iload 2, .iconst 4, .if_icmp .ge 91, .aload 0, .iload 1, .iload 2, .invokeinterface 279 11007, .aload 0, .iload 1, .aload 0, .instanceof 1330, .iload 1, .iaload, .invokeinterface 279 11007, .if_icmp .ge 85, .aload 0, .iconst 4, .iload 2, .iadd, .iload 1, .invokeinterface 279 11007, .aload 0, .iconst 4, .iload 2, .iadd, .aload 0, .instanceof 1331, .iload 2, .iaload, .invokeinterface 279 11007, .if_icmp .ge 85, .iconst 0, .freturn], 0),
  (85, [.iinc 2 1, .goto 34], 0),
  (91, [.iinc 1 1, .goto 27], 0),
  (97, [.iconst 1, .freturn], 0)]
/-- 279: GriefWoodModel.rankOf(II)I -/
def mb_279 : List (Nat × List Instr × Nat) := [(0, [.iconst 0, .istore 3], 2),
  (2, [.aload 0, .iload 1, .iload 3, .invokeinterface 280 11007, .iload 2, .if_icmp .eq 19, .iload 3, .iconst 1, .iadd, .istore 3, .goto 2], 0),
  (19, [.iload 3, .ireturn], 0)]
/-- 280: GriefWoodModel.wished(II)I -/
def mb_280 : List (Nat × List Instr × Nat) := [(0, [.aload 0, .instanceof 1329, .iload 1, .iaload, .iconst 123, .iadd, .istore 3, .iconst 3, .istore 4], 13),
  (13, [.iload 4, .iload 2, .if_icmp .le 30, .iload 3, .iconst 10, .idiv, .istore 3, .iinc 4 (-1), .goto 13], 0),
  (30, [.iload 3, .iconst 10, .irem, .ireturn], 0)]
/-- 281: GriefWoodModel.findsPairs()V -/
def mb_281 : List (Nat × List Instr × Nat) := [(0, [.iconst 0, .istore 1], 2),
  (2, [.iload 1, .iconst 4, .if_icmp .ge 34, .aload 0, .instanceof 1330, .iload 1, .iconst (-1), .iastore, .aload 0, .instanceof 1331, .iload 1, .iconst (-1), .iastore, .aload 0, .instanceof 1332, .iload 1, .iconst 0, .iastore, .iinc 1 1, .goto 2], 0),
  (34, [.iconst 0, .istore 1], 36),
  (36, [.iload 1, .iconst 4, .if_icmp .ge 152, .aload 0, .instanceof 1330, .iload 1, .iaload, .iconst (-1), .if_icmp .eq 58, .iload 1, .iconst 1, .iadd, .istore 1, .goto 36], 0),
  (58, [.aload 0, .iload 1, .aload 0, .instanceof 1332, .iload 1, .iaload, .invokeinterface 280 11007, .istore 2, .aload 0, .instanceof 1331, .iload 2, .iaload, .istore 3, .aload 0, .instanceof 1332, .iload 1, .aload 0, .instanceof 1332, .iload 1, .iaload, .iconst 1, .iadd, .iastore, .iload 3, .iconst (-1), .if_icmp .eq 118, .aload 0, .iconst 4, .iload 2, .iadd, .iload 3, .invokeinterface 279 11007, .aload 0, .iconst 4, .iload 2, .iadd, .iload 1, .invokeinterface 279 11007, .if_icmp .ge 118, .goto 36], 0),
  (118, [.aload 0, .instanceof 1331, .iload 2, .iload 1, .iastore, .aload 0, .instanceof 1330, .iload 1, .iload 2, .iastore, .iload 3, .iconst (-1), .if_icmp .ne 140, .goto 36], 0),
  (140, [.aload 0, .instanceof 1330, .iload 3, .iconst (-1), .iastore, .iconst 0, .istore 1, .goto 36], 0),
  (152, [.return_], 0)]
/-- 282: GriefWoodModel.eggs(III)I -/
def mb_282 : List (Nat × List Instr × Nat) := [(0, [.aload 0, .iconst 0, .putfield 1280, .aload 0, .iload 1, .iconst 0, .iconst 500, .invokeinterface 181 11009, .ifCond .eq 38, .aload 0, .iload 2, .iconst 1, .iconst 8, .invokeinterface 181 11009, .ifCond .eq 38, .aload 0, .iload 3, .iconst 0, .iconst 1, .invokeinterface 181 11009, .ifCond .ne 40], 38),
  (38, [.iconst (-1), .ireturn], 0),
  (40, [.aload 0, .iload 1, .invokeinterface 283 11004, .iload 3, .ifCond .ne 61, .aload 0, .instanceof 1333, .iconst 9, .iload 1, .imul, .iload 2, .iadd, .iaload, .ireturn], 0),
  (61, [.iconst 1, .istore 4], 64),
  (64, [.iload 4, .iload 1, .if_icmp .gt 101, .aload 0, .iload 1, .iload 2, .iload 4, .invokeinterface 284 11009, .aload 0, .instanceof 1333, .iconst 9, .iload 1, .imul, .iload 2, .iadd, .iaload, .if_icmp .ne 95, .iload 4, .ireturn], 0),
  (95, [.iinc 4 1, .goto 64], 0),
  (101, [.iconst (-1), .ireturn], 0)]
/-- 283: GriefWoodModel.findsEggs(I)V -/
def mb_283 : List (Nat × List Instr × Nat) := [(0, [.iconst 0, .istore 2], 2),
  (2, [.iload 2, .iload 1, .if_icmp .gt 104, .aload 0, .instanceof 1333, .iconst 9, .iload 2, .imul, .iload 2, .ifCond .ne 23, .iconst 0, .goto 26], 0),
  (23, [.iconst 100000000], 26),
  (26, [.iastore, .iconst 1, .istore 3], 29),
  (29, [.iload 3, .iconst 9, .if_icmp .ge 98, .iload 2, .ifCond .ne 43, .iconst 0, .goto 46], 0),
  (43, [.iconst 100000000], 46),
  (46, [.istore 4, .iconst 1, .istore 5], 51),
  (51, [.iload 5, .iload 2, .if_icmp .gt 79, .aload 0, .iload 4, .aload 0, .iload 2, .iload 3, .iload 5, .invokeinterface 284 11009, .invokeinterface 248 11007, .istore 4, .iinc 5 1, .goto 51], 0),
  (79, [.aload 0, .instanceof 1333, .iconst 9, .iload 2, .imul, .iload 3, .iadd, .iload 4, .iastore, .iinc 3 1, .goto 29], 0),
  (98, [.iinc 2 1, .goto 2], 0),
  (104, [.return_], 0)]
/-- 284: GriefWoodModel.eggsAt(III)I -/
def mb_284 : List (Nat × List Instr × Nat) := [(0, [.iconst 1, .aload 0, .aload 0, .instanceof 1333, .iconst 9, .iload 3, .iconst 1, .isub, .imul, .iload 2, .iadd, .iconst 1, .isub, .iaload, .aload 0, .instanceof 1333, .iconst 9, .iload 1, .iload 3, .isub, .imul, .iload 2, .iadd, .iaload, .invokeinterface 249 11007, .iadd, .ireturn], 0)]
/-- 285: GriefWoodModel.season(IIII)I -/
def mb_285 : List (Nat × List Instr × Nat) := [(0, [.aload 0, .iconst 0, .putfield 1280, .iload 1, .iconst 10, .idiv, .istore 5, .iload 1, .iconst 10, .irem, .istore 6, .iload 2, .iconst 10, .idiv, .istore 7, .iload 2, .iconst 10, .irem, .istore 8, .aload 0, .iload 1, .iconst 0, .iconst 55, .invokeinterface 181 11009, .ifCond .eq 108, .aload 0, .iload 2, .iconst 0, .iconst 55, .invokeinterface 181 11009, .ifCond .eq 108, .aload 0, .iload 6, .iconst 1, .iconst 5, .invokeinterface 181 11009, .ifCond .eq 108, .aload 0, .iload 8, .iconst 1], 66),
  (66, [.iconst 5, .invokeinterface 181 11009, .ifCond .eq 108, .iload 5, .iload 6, .if_icmp .gt 108, .iload 7, .iload 8, .if_icmp .gt 108, .aload 0, .iload 3, .iconst 0, .iconst 5, .invokeinterface 181 11009, .ifCond .eq 108, .aload 0, .iload 4, .iconst 0, .iconst 1, .invokeinterface 181 11009, .ifCond .ne 110], 108),
  (108, [.iconst (-1), .ireturn], 0),
  (110, [.iconst 1, .istore 9, .iconst 1, .istore 10, .iconst 0, .istore 11], 119),
  (119, [.iload 11, .iload 3, .if_icmp .ge 163, .iload 9, .iload 5, .imul, .iload 8, .imul, .iload 10, .iload 9, .isub, .iload 7, .imul, .iload 6, .imul, .iadd, .istore 9, .iload 10, .iload 6, .imul, .iload 8, .imul, .istore 10, .iinc 11 1, .goto 119], 0),
  (163, [.aload 0, .iload 9, .iload 10, .invokeinterface 271 11007, .istore 11, .iload 4, .ifCond .ne 186, .iload 9, .iload 11, .idiv, .goto 191], 0),
  (186, [.iload 10, .iload 11, .idiv], 191),
  (191, [.ireturn], 0)]
/-- 286: GriefWoodModel.height(I)I -/
def mb_286 : List (Nat × List Instr × Nat) := [(0, [.aload 0, .iconst 0, .putfield 1280, .iload 1, .iconst (-1), .if_icmp .ne 17, .aload 0, .iconst 0, .putfield 1334, .iconst 0, .ireturn], 0),
  (17, [.aload 0, .iload 1, .iconst 0, .iconst 99, .invokeinterface 181 11009, .ifCond .eq 37, .aload 0, .getfield 1334, .iconst 12, .if_icmp .ne 39], 37),
  (37, [.iconst (-1), .ireturn], 0),
  (39, [.aload 0, .instanceof 1335, .aload 0, .getfield 1334, .iload 1, .iastore, .aload 0, .aload 0, .getfield 1334, .iconst 1, .iadd, .putfield 1334, .aload 0, .getfield 1334, .ireturn], 0)]
/-- 287: GriefWoodModel.hollow(I)I -/
def mb_287 : List (Nat × List Instr × Nat) := [(0, [.aload 0, .iconst 0, .putfield 1280, .aload 0, .iload 1, .iconst 0, .iconst 4, .invokeinterface 181 11009, .ifCond .ne 17, .iconst (-1), .ireturn], 0),
  (17, [.iload 1, .iconst 4, .if_icmp .ne 27, .aload 0, .invokeinterface 288 11003, .ireturn], 0),
  (27, [.iconst 0, .istore 2, .iconst 0, .istore 3], 31),
  (31, [.iload 3, .aload 0, .getfield 1334, .if_icmp .ge 141, .iload 1, .ifCond .ne 51, .iload 2, .aload 0, .iload 3, .invokeinterface 290 11005, .iadd, .istore 2], 51),
  (51, [.iload 1, .iconst 1, .if_icmp .ne 78, .aload 0, .iload 3, .invokeinterface 290 11005, .ifCond .le 78, .aload 0, .iload 3, .iconst 1, .isub, .invokeinterface 290 11005, .ifCond .ne 78, .iload 2, .iconst 1, .iadd, .istore 2], 78),
  (78, [.iload 1, .iconst 2, .if_icmp .ne 104, .aload 0, .iconst 0, .iload 3, .iconst 1, .isub, .invokeinterface 289 11007, .aload 0, .instanceof 1335, .iload 3, .iaload, .if_icmp .ge 104, .iload 2, .iconst 1, .iadd, .istore 2], 104),
  (104, [.iload 1, .iconst 3, .if_icmp .ne 135, .aload 0, .iload 3, .iconst 1, .iadd, .aload 0, .getfield 1334, .iconst 1, .isub, .invokeinterface 289 11007, .aload 0, .instanceof 1335, .iload 3, .iaload, .if_icmp .ge 135, .iload 2, .iconst 1, .iadd, .istore 2], 135),
  (135, [.iinc 3 1, .goto 31], 0),
  (141, [.iload 2, .ireturn], 0)]
/-- 288: GriefWoodModel.couplesSeen()I -/
def mb_288 : List (Nat × List Instr × Nat) := [(0, [.iconst 0, .istore 1, .iconst 0, .istore 2], 4),
  (4, [.iload 2, .aload 0, .getfield 1334, .if_icmp .ge 69, .iload 2, .iconst 1, .iadd, .istore 3], 16),
  (16, [.iload 3, .aload 0, .getfield 1334, .if_icmp .ge 63, .aload 0, .iload 2, .iconst 1, .iadd, .iload 3, .iconst 1, .isub, .invokeinterface 289 11007, .aload 0, .aload 0, .instanceof 1335, .iload 2, .iaload, .aload 0, .instanceof 1335, .iload 3, .iaload, .invokeinterface 248 11007, .if_icmp .ge 57, .iload 1, .iconst 1, .iadd, .istore 1], 57),
  (57, [.iinc 3 1, .goto 16], 0),
  (63, [.iinc 2 1, .goto 4], 0),
  (69, [.iload 1, .ireturn], 0)]
/-- 289: GriefWoodModel.highest(II)I -/
def mb_289 : List (Nat × List Instr × Nat) := [(0, [.iconst (-1), .istore 3, .iload 1, .istore 4], 5),
  (5, [.iload 4, .iload 2, .if_icmp .gt 30, .aload 0, .iload 3, .aload 0, .instanceof 1335, .iload 4, .iaload, .invokeinterface 249 11007, .istore 3, .iinc 4 1, .goto 5], 0),
  (30, [.iload 3, .ireturn], 0)]
/-- 290: GriefWoodModel.rainOn(I)I -/
def mb_290 : List (Nat × List Instr × Nat) := [(0, [.aload 0, .iload 1, .iconst 0, .aload 0, .getfield 1334, .iconst 1, .isub, .invokeinterface 181 11009, .ifCond .eq 46, .aload 0, .aload 0, .iconst 0, .iload 1, .invokeinterface 289 11007, .aload 0, .iload 1, .aload 0, .getfield 1334, .iconst 1, .isub, .invokeinterface 289 11007, .invokeinterface 248 11007, .aload 0, .instanceof 1335, .iload 1, .iaload, .isub, .goto 47], 0),
  (46, [.iconst 0], 47),
  (47, [.ireturn], 0)]
/-- 291: GriefWoodModel.third(I)I -/
def mb_291 : List (Nat × List Instr × Nat) := [(0, [.aload 0, .iconst 0, .putfield 1280, .iload 1, .iconst (-1), .if_icmp .ne 17, .aload 0, .iconst 0, .putfield 1336, .iconst 0, .ireturn], 0),
  (17, [.aload 0, .iload 1, .iconst 1, .iconst 60, .invokeinterface 181 11009, .ifCond .eq 37, .aload 0, .getfield 1336, .iconst 9, .if_icmp .ne 39], 37),
  (37, [.iconst (-1), .ireturn], 0),
  (39, [.aload 0, .instanceof 1337, .aload 0, .getfield 1336, .iload 1, .iastore, .aload 0, .aload 0, .getfield 1336, .iconst 1, .iadd, .putfield 1336, .aload 0, .getfield 1336, .ireturn], 0)]
/-- 292: GriefWoodModel.three(I)I -/
def mb_292 : List (Nat × List Instr × Nat) := [(0, [.aload 0, .iconst 0, .putfield 1280, .aload 0, .iload 1, .iconst 0, .iconst 1, .invokeinterface 181 11009, .ifCond .ne 17, .iconst (-1), .ireturn], 0),
  (17, [.aload 0, .invokeinterface 293 11003, .istore 2, .iload 1, .iconst 1, .if_icmp .ne 31, .iload 2, .goto 40], 0),
  (31, [.iload 2, .ifCond .le 39, .iconst 1, .goto 40], 0),
  (39, [.iconst 0], 40),
  (40, [.ireturn], 0)]
/-- 293: GriefWoodModel.waysAmongThree()I -/
def mb_293 : List (Nat × List Instr × Nat) := [(0, [.iconst 1, .istore 1, .iconst 0, .istore 2], 4),
  (4, [.iload 2, .aload 0, .getfield 1336, .if_icmp .ge 22, .iload 1, .iconst 3, .imul, .istore 1, .iinc 2 1, .goto 4], 0),
  (22, [.iconst 0, .istore 2, .iconst 0, .istore 3], 26),
  (26, [.iload 3, .iload 1, .if_icmp .ge 147, .iconst 0, .istore 4], 34),
  (34, [.iload 4, .iconst 3, .if_icmp .ge 54, .aload 0, .instanceof 1338, .iload 4, .iconst 0, .iastore, .iinc 4 1, .goto 34], 0),
  (54, [.iload 3, .istore 4, .iconst 0, .istore 5], 60),
  (60, [.iload 5, .aload 0, .getfield 1336, .if_icmp .ge 107, .aload 0, .instanceof 1338, .iload 4, .iconst 3, .irem, .aload 0, .instanceof 1338, .iload 4, .iconst 3, .irem, .iaload, .aload 0, .instanceof 1337, .iload 5, .iaload, .iadd, .iastore, .iload 4, .iconst 3, .idiv, .istore 4, .iinc 5 1, .goto 60], 0),
  (107, [.aload 0, .instanceof 1338, .iconst 0, .iaload, .aload 0, .instanceof 1338, .iconst 1, .iaload, .if_icmp .ne 141, .aload 0, .instanceof 1338, .iconst 1, .iaload, .aload 0, .instanceof 1338, .iconst 2, .iaload, .if_icmp .ne 141, .iload 2, .iconst 1, .iadd, .istore 2], 141),
  (141, [.iinc 3 1, .goto 26], 0),
  (147, [.iload 2, .ireturn], 0)]
/-- 294: GriefWoodModel.sum(III)I -/
def mb_294 : List (Nat × List Instr × Nat) := [(0, [.aload 0, .iconst 0, .putfield 1280, .iload 1, .iconst (-1), .if_icmp .ne 17, .aload 0, .iconst 0, .putfield 1339, .iconst 0, .ireturn], 0),
  (17, [.aload 0, .iload 1, .iconst 0, .iconst 99, .invokeinterface 181 11009, .ifCond .eq 59, .aload 0, .iload 2, .iconst 0, .iconst 15, .invokeinterface 181 11009, .ifCond .eq 59, .aload 0, .iload 3, .iconst 0, .iconst 15, .invokeinterface 181 11009, .ifCond .eq 59, .aload 0, .getfield 1339, .iconst 8, .if_icmp .ne 61], 59),
  (59, [.iconst (-1), .ireturn], 0),
  (61, [.aload 0, .instanceof 1340, .aload 0, .getfield 1339, .iconst 256, .iload 1, .imul, .iconst 16, .iload 2, .imul, .iadd, .iload 3, .iadd, .iastore, .aload 0, .aload 0, .getfield 1339, .iconst 1, .iadd, .putfield 1339, .aload 0, .getfield 1339, .ireturn], 0)]
/-- 295: GriefWoodModel.pounds(I)I -/
def mb_295 : List (Nat × List Instr × Nat) := [(0, [.aload 0, .iconst 0, .putfield 1280, .aload 0, .iload 1, .iconst 0, .iconst 2, .invokeinterface 181 11009, .ifCond .ne 17, .iconst (-1), .ireturn], 0),
  (17, [.iconst 0, .istore 2, .iconst 0, .istore 3], 21),
  (21, [.iload 3, .aload 0, .getfield 1339, .if_icmp .ge 44, .iload 2, .aload 0, .instanceof 1340, .iload 3, .iaload, .iadd, .istore 2, .iinc 3 1, .goto 21], 0),
  (44, [.iload 1, .ifCond .ne 56, .iload 2, .iconst 256, .idiv, .goto 75], 0),
  (56, [.iload 1, .iconst 1, .if_icmp .ne 71, .iload 2, .iconst 16, .idiv, .iconst 16, .irem, .goto 75], 0),
  (71, [.iload 2, .iconst 16, .irem], 75),
  (75, [.ireturn], 0)]
/-- 296: GriefWoodModel.rounds(IIII)I -/
def mb_296 : List (Nat × List Instr × Nat) := [(0, [.aload 0, .iconst 0, .putfield 1280, .aload 0, .iload 1, .iconst 1, .iconst 20, .invokeinterface 181 11009, .ifCond .eq 52, .aload 0, .iload 2, .iconst 1, .iconst 20, .invokeinterface 181 11009, .ifCond .eq 52, .aload 0, .iload 3, .iconst 0, .iload 1, .iconst 1, .isub, .invokeinterface 181 11009, .ifCond .eq 52, .aload 0, .iload 4, .iconst 0, .iload 2, .iconst 1, .isub, .invokeinterface 181 11009, .ifCond .ne 54], 52),
  (52, [.iconst (-1), .ireturn], 0),
  (54, [.aload 0, .iload 1, .iload 2, .iload 3, .iload 4, .invokeinterface 297 11011, .ireturn], 0)]
/-- 297: GriefWoodModel.placeInRound(IIII)I -/
def mb_297 : List (Nat × List Instr × Nat) := [(0, [.aload 0, .aload 0, .iload 3, .iload 4, .invokeinterface 248 11007, .aload 0, .iload 1, .iconst 1, .isub, .iload 3, .isub, .iload 2, .iconst 1, .isub, .iload 4, .isub, .invokeinterface 248 11007, .invokeinterface 248 11007, .istore 5, .iload 1, .iload 2, .imul, .iload 1, .iconst 2, .iload 5, .imul, .isub, .iload 2, .iconst 2, .iload 5, .imul, .isub, .imul, .isub, .istore 6, .iload 1, .iconst 2, .iload 5, .imul, .isub], 53),
  (53, [.iconst 1, .isub, .istore 7, .iload 2, .iconst 2, .iload 5, .imul, .isub, .iconst 1, .isub, .istore 8, .iload 3, .iload 5, .isub, .istore 9, .iload 4, .iload 5, .isub, .istore 10, .iload 10, .ifCond .ne 91, .iload 6, .iload 9, .iadd, .ireturn], 0),
  (91, [.iload 9, .iload 7, .if_icmp .ne 107, .iload 6, .iload 7, .iadd, .iload 10, .iadd, .ireturn], 0),
  (107, [.iload 10, .iload 8, .if_icmp .ne 131, .iload 6, .iload 7, .iadd, .iload 8, .iadd, .iload 7, .iadd, .iload 9, .isub, .goto 147], 0),
  (131, [.iload 6, .iconst 2, .iload 7, .imul, .iadd, .iload 8, .iadd, .iload 8, .iadd, .iload 10, .isub], 147),
  (147, [.ireturn], 0)]
/-- 298: GriefWoodModel.round(III)I -/
def mb_298 : List (Nat × List Instr × Nat) := [(0, [.aload 0, .iconst 0, .putfield 1280, .aload 0, .iload 1, .iconst 1, .iconst 20, .invokeinterface 181 11009, .ifCond .eq 41, .aload 0, .iload 2, .iconst 1, .iconst 20, .invokeinterface 181 11009, .ifCond .eq 41, .aload 0, .iload 3, .iconst 0, .iload 1, .iload 2, .imul, .iconst 1, .isub, .invokeinterface 181 11009, .ifCond .ne 43], 41),
  (41, [.iconst (-1), .ireturn], 0),
  (43, [.iconst 0, .istore 4], 46),
  (46, [.iload 4, .iload 2, .if_icmp .ge 96, .iconst 0, .istore 5], 55),
  (55, [.iload 5, .iload 1, .if_icmp .ge 90, .aload 0, .iload 1, .iload 2, .iload 5, .iload 4, .invokeinterface 297 11011, .iload 3, .if_icmp .ne 84, .iconst 100, .iload 4, .imul, .iload 5, .iadd, .ireturn], 0),
  (84, [.iinc 5 1, .goto 55], 0),
  (90, [.iinc 4 1, .goto 46], 0),
  (96, [.iconst (-1), .ireturn], 0)]
/-- 299: GriefWoodModel.halves(II)I -/
def mb_299 : List (Nat × List Instr × Nat) := [(0, [.aload 0, .iconst 0, .putfield 1280, .aload 0, .iload 1, .iconst 1, .iconst 1000, .invokeinterface 181 11009, .ifCond .eq 32, .iload 2, .iconst (-1), .if_icmp .eq 34, .aload 0, .iload 2, .iconst 1, .iload 1, .invokeinterface 181 11009, .ifCond .ne 34], 32),
  (32, [.iconst (-1), .ireturn], 0),
  (34, [.iload 2, .iconst (-1), .if_icmp .eq 46, .aload 0, .iload 1, .iload 2, .invokeinterface 300 11007, .ireturn], 0),
  (46, [.iconst 0, .istore 3, .iconst 1, .istore 4], 51),
  (51, [.iload 4, .iload 1, .if_icmp .gt 76, .aload 0, .iload 3, .aload 0, .iload 1, .iload 4, .invokeinterface 300 11007, .invokeinterface 249 11007, .istore 3, .iinc 4 1, .goto 51], 0),
  (76, [.iload 3, .ireturn], 0)]
/-- 300: GriefWoodModel.probesFor(II)I -/
def mb_300 : List (Nat × List Instr × Nat) := [(0, [.iconst 1, .istore 3, .iload 1, .istore 4, .iconst 0, .istore 5], 8),
  (8, [.iload 3, .iload 4, .if_icmp .ge 49, .iload 3, .iload 4, .iadd, .iconst 2, .idiv, .istore 6, .iload 2, .iload 6, .if_icmp .gt 35, .iload 6, .istore 4, .goto 40], 0),
  (35, [.iload 6, .iconst 1, .iadd, .istore 3], 40),
  (40, [.iload 5, .iconst 1, .iadd, .istore 5, .goto 8], 0),
  (49, [.iload 5, .ireturn], 0)]
/-- 301: GriefWoodModel.song(II)I -/
def mb_301 : List (Nat × List Instr × Nat) := [(0, [.aload 0, .iconst 0, .putfield 1280, .aload 0, .iload 1, .iconst 0, .iconst 30, .invokeinterface 181 11009, .ifCond .eq 26, .aload 0, .iload 2, .iconst 0, .iconst 1, .invokeinterface 181 11009, .ifCond .ne 28], 26),
  (26, [.iconst (-1), .ireturn], 0),
  (28, [.iconst 1, .istore 3, .iconst 2, .istore 4, .iconst 1, .istore 5, .iconst 1, .istore 6], 39),
  (39, [.iload 6, .iload 1, .if_icmp .gt 75, .iload 3, .iload 4, .iadd, .iload 6, .iadd, .iconst 1, .iadd, .istore 7, .iload 4, .istore 3, .iload 7, .istore 4, .iload 5, .iload 3, .iadd, .istore 5, .iinc 6 1, .goto 39], 0),
  (75, [.iload 2, .ifCond .ne 83, .iload 3, .goto 85], 0),
  (83, [.iload 5], 85),
  (85, [.ireturn], 0)]
/-- 302: GriefWoodModel.spade(I)I -/
def mb_302 : List (Nat × List Instr × Nat) := [(0, [.aload 0, .iconst 0, .putfield 1280, .iload 1, .iconst (-1), .if_icmp .ne 17, .aload 0, .iconst 0, .putfield 1341, .iconst 0, .ireturn], 0),
  (17, [.aload 0, .iload 1, .iconst 0, .iconst 1023, .invokeinterface 181 11009, .ifCond .eq 38, .aload 0, .getfield 1341, .iconst 10, .if_icmp .ne 40], 38),
  (38, [.iconst (-1), .ireturn], 0),
  (40, [.aload 0, .instanceof 1342, .aload 0, .getfield 1341, .iload 1, .iastore, .aload 0, .aload 0, .getfield 1341, .iconst 1, .iadd, .putfield 1341, .aload 0, .getfield 1341, .ireturn], 0)]
/-- 303: GriefWoodModel.spades(I)I -/
def mb_303 : List (Nat × List Instr × Nat) := [(0, [.aload 0, .iconst 0, .putfield 1280, .aload 0, .iload 1, .iconst 0, .iconst 1, .invokeinterface 181 11009, .ifCond .ne 17, .iconst (-1), .ireturn], 0),
  (17, [.iconst 0, .istore 2, .iconst 0, .istore 3], 21),
  (21, [.iload 3, .aload 0, .getfield 1341, .if_icmp .ge 44, .iload 2, .aload 0, .instanceof 1342, .iload 3, .iaload, .ixor, .istore 2, .iinc 3 1, .goto 21], 0),
  (44, [.iload 1, .ifCond .ne 50, .iload 2, .ireturn], 0),
  (50, [.iconst 0, .istore 3], 52),
  (52, [.iload 3, .aload 0, .getfield 1341, .if_icmp .ge 78, .aload 0, .instanceof 1342, .iload 3, .iaload, .iload 2, .if_icmp .ne 72, .iconst 1, .ireturn], 0),
  (72, [.iinc 3 1, .goto 52], 0),
  (78, [.iconst 0, .ireturn], 0)]
/-- 304: GriefWoodModel.game(I)I -/
def mb_304 : List (Nat × List Instr × Nat) := [(0, [.aload 0, .iconst 0, .putfield 1280, .iconst 0, .istore 2, .iload 1, .istore 3], 9),
  (9, [.iload 3, .iconst 9, .if_icmp .le 27, .iload 2, .iconst 1, .iadd, .istore 2, .iload 3, .iconst 10, .idiv, .istore 3, .goto 9], 0),
  (27, [.aload 0, .iload 1, .iconst 10, .iconst 155555, .invokeinterface 181 11009, .ifCond .eq 50, .aload 0, .iload 2, .iconst 1, .iconst 5, .invokeinterface 181 11009, .ifCond .ne 52], 50),
  (50, [.iconst (-1), .ireturn], 0),
  (52, [.iload 1, .istore 3, .iconst 0, .istore 4, .iconst 1, .istore 5, .iconst 0, .istore 6], 63),
  (63, [.iload 6, .iconst 5, .iload 2, .isub, .if_icmp .ge 84, .iload 5, .iconst 6, .imul, .istore 5, .iinc 6 1, .goto 63], 0),
  (84, [.iconst 0, .istore 6, .iload 2, .iconst 1, .isub, .istore 7], 92),
  (92, [.iload 7, .ifCond .lt 150, .iload 3, .iconst 10, .irem, .istore 8, .iload 8, .iconst 5, .if_icmp .gt 116, .iload 8, .iload 6, .if_icmp .ge 118], 116),
  (116, [.iconst (-1), .ireturn], 0),
  (118, [.iload 8, .istore 6, .iload 4, .iload 8, .iload 5, .imul, .iadd, .istore 4, .iload 5, .iconst 6, .imul, .istore 5, .iload 3, .iconst 10, .idiv, .istore 3, .iinc 7 (-1), .goto 92], 0),
  (150, [.iload 3, .iconst 1, .if_icmp .eq 157, .iconst (-1), .ireturn], 0),
  (157, [.iconst 0, .istore 7], 160),
  (160, [.iload 7, .iload 4, .if_icmp .ge 206, .aload 0, .iload 7, .invokeinterface 305 11004, .aload 0, .instanceof 1343, .iload 7, .aload 0, .invokeinterface 306 11003, .ifCond .eq 198, .aload 0, .invokeinterface 307 11003, .iconst (-1), .if_icmp .eq 198, .iconst 1, .goto 199], 0),
  (198, [.iconst 0], 199),
  (199, [.iastore, .iinc 7 1, .goto 160], 0),
  (206, [.aload 0, .iload 4, .invokeinterface 305 11004, .aload 0, .invokeinterface 307 11003, .ireturn], 0)]
/-- 305: GriefWoodModel.takesRows(I)V -/
def mb_305 : List (Nat × List Instr × Nat) := [(0, [.iload 1, .istore 2, .iconst 4, .istore 3], 4),
  (4, [.iload 3, .ifCond .lt 29, .aload 0, .instanceof 1344, .iload 3, .iload 2, .iconst 6, .irem, .iastore, .iload 2, .iconst 6, .idiv, .istore 2, .iinc 3 (-1), .goto 4], 0),
  (29, [.return_], 0)]
/-- 306: GriefWoodModel.areRows()Z -/
def mb_306 : List (Nat × List Instr × Nat) := [(0, [.iconst 1, .istore 1], 2),
  (2, [.iload 1, .iconst 5, .if_icmp .ge 32, .aload 0, .instanceof 1344, .iload 1, .iaload, .aload 0, .instanceof 1344, .iload 1, .iconst 1, .isub, .iaload, .if_icmp .le 26, .iconst 0, .freturn], 0),
  (26, [.iinc 1 1, .goto 2], 0),
  (32, [.iconst 1, .freturn], 0)]
/-- 307: GriefWoodModel.goodTaking()I -/
def mb_307 : List (Nat × List Instr × Nat) := [(0, [.iconst 0, .istore 1], 2),
  (2, [.iload 1, .iconst 5, .if_icmp .ge 58, .iconst 0, .istore 2], 9),
  (9, [.iload 2, .aload 0, .instanceof 1344, .iload 1, .iaload, .if_icmp .ge 52, .iload 2, .iload 1, .iadd, .ifCond .le 46, .aload 0, .instanceof 1343, .aload 0, .iload 2, .iload 1, .invokeinterface 308 11007, .iaload, .ifCond .ne 46, .iconst 10, .iload 1, .imul, .iload 2, .iadd, .ireturn], 0),
  (46, [.iinc 2 1, .goto 9], 0),
  (52, [.iinc 1 1, .goto 2], 0),
  (58, [.iconst (-1), .ireturn], 0)]
/-- 308: GriefWoodModel.behind(II)I -/
def mb_308 : List (Nat × List Instr × Nat) := [(0, [.iconst 0, .istore 3, .iconst 0, .istore 4], 5),
  (5, [.iload 4, .iconst 5, .if_icmp .ge 51, .iconst 6, .iload 3, .imul, .iload 4, .iload 2, .if_icmp .lt 36, .aload 0, .aload 0, .instanceof 1344, .iload 4, .iaload, .iload 1, .invokeinterface 248 11007, .goto 43], 0),
  (36, [.aload 0, .instanceof 1344, .iload 4, .iaload], 43),
  (43, [.iadd, .istore 3, .iinc 4 1, .goto 5], 0),
  (51, [.iload 3, .ireturn], 0)]
/-- 309: GriefWoodModel.image(Z)Z -/
def mb_309 : List (Nat × List Instr × Nat) := [(0, [.aload 0, .iconst 0, .putfield 1280, .iload 1, .ifCond .ne 18, .aload 0, .getfield 1346, .ifCond .ne 18, .iconst 0, .freturn], 0),
  (18, [.aload 0, .iload 1, .putstatic 1345, .aload 0, .iconst 1, .putstatic 1346, .aload 0, .iconst 0, .putfield 1347, .iconst 0, .istore 2], 35),
  (35, [.iload 2, .iconst 247, .if_icmp .ge 64, .aload 0, .instanceof 1281, .iload 2, .aload 0, .aload 0, .instanceof 1281, .iload 2, .iaload, .invokeinterface 310 11005, .iastore, .iinc 2 1, .goto 35], 0),
  (64, [.aload 0, .invokeinterface 311 11002, .iconst 0, .istore 2], 70),
  (70, [.iload 2, .iconst 600, .if_icmp .ge 99, .aload 0, .instanceof 1288, .iload 2, .aload 0, .aload 0, .instanceof 1288, .iload 2, .iaload, .invokeinterface 310 11005, .iastore, .iinc 2 1, .goto 70], 0),
  (99, [.aload 0, .invokeinterface 312 11002, .iload 1, .ifCond .ne 112, .aload 0, .iconst 0, .putfield 1283], 112),
  (112, [.iconst 1, .freturn], 0)]
/-- 310: GriefWoodModel.keeps(I)I -/
def mb_310 : List (Nat × List Instr × Nat) := [(0, [.aload 0, .aload 0, .getfield 1347, .iconst 1, .iadd, .putfield 1347, .aload 0, .getfield 1345, .ifCond .ne 29, .aload 0, .instanceof 1348, .aload 0, .getfield 1347, .iconst 1, .isub, .iaload, .ireturn], 0),
  (29, [.aload 0, .instanceof 1348, .aload 0, .getfield 1347, .iconst 1, .isub, .iload 1, .iastore, .iload 1, .ireturn], 0)]
/-- 311: GriefWoodModel.keepsTold()V -/
def mb_311 : List (Nat × List Instr × Nat) := [(0, [.aload 0, .aload 0, .aload 0, .getfield 1286, .invokeinterface 310 11005, .putfield 1286, .aload 0, .aload 0, .aload 0, .getfield 1312, .invokeinterface 310 11005, .putfield 1312, .aload 0, .aload 0, .aload 0, .getfield 1314, .invokeinterface 310 11005, .putfield 1314, .aload 0, .aload 0, .aload 0, .getfield 1317, .invokeinterface 310 11005, .putfield 1317, .aload 0, .aload 0, .aload 0, .getfield 1326, .invokeinterface 310 11005, .putfield 1326, .aload 0, .aload 0, .aload 0, .getfield 1334, .invokeinterface 310 11005, .putfield 1334, .aload 0, .aload 0, .aload 0, .getfield 1336], 78),
  (78, [.invokeinterface 310 11005, .putfield 1336, .aload 0, .aload 0, .aload 0, .getfield 1339, .invokeinterface 310 11005, .putfield 1339, .aload 0, .aload 0, .aload 0, .getfield 1341, .invokeinterface 310 11005, .putfield 1341, .iconst 0, .istore 1], 110),
  (110, [.iload 1, .iconst 10, .if_icmp .ge 154, .aload 0, .instanceof 1287, .iload 1, .aload 0, .aload 0, .instanceof 1287, .iload 1, .iaload, .invokeinterface 310 11005, .iastore, .aload 0, .instanceof 1342, .iload 1, .aload 0, .aload 0, .instanceof 1342, .iload 1, .iaload, .invokeinterface 310 11005, .iastore, .iinc 1 1, .goto 110], 0),
  (154, [.iconst 0, .istore 1], 156),
  (156, [.iload 1, .iconst 64, .if_icmp .ge 184, .aload 0, .instanceof 1313, .iload 1, .aload 0, .aload 0, .instanceof 1313, .iload 1, .iaload, .invokeinterface 310 11005, .iastore, .iinc 1 1, .goto 156], 0),
  (184, [.iconst 0, .istore 1], 186),
  (186, [.iload 1, .iconst 48, .if_icmp .ge 214, .aload 0, .instanceof 1318, .iload 1, .aload 0, .aload 0, .instanceof 1318, .iload 1, .iaload, .invokeinterface 310 11005, .iastore, .iinc 1 1, .goto 186], 0),
  (214, [.iconst 0, .istore 1], 216),
  (216, [.iload 1, .iconst 8, .if_icmp .ge 276, .aload 0, .instanceof 1325, .iload 1, .aload 0, .aload 0, .instanceof 1325, .iload 1, .iaload, .invokeinterface 310 11005, .iastore, .aload 0, .instanceof 1329, .iload 1, .aload 0, .aload 0, .instanceof 1329, .iload 1, .iaload, .invokeinterface 310 11005, .iastore, .aload 0, .instanceof 1340, .iload 1, .aload 0, .aload 0, .instanceof 1340, .iload 1, .iaload, .invokeinterface 310 11005, .iastore, .iinc 1 1, .goto 216], 0),
  (276, [.iconst 0, .istore 1], 278),
  (278, [.iload 1, .iconst 12, .if_icmp .ge 322, .aload 0, .instanceof 1327, .iload 1, .aload 0, .aload 0, .instanceof 1327, .iload 1, .iaload, .invokeinterface 310 11005, .iastore, .aload 0, .instanceof 1335, .iload 1, .aload 0, .aload 0, .instanceof 1335, .iload 1, .iaload, .invokeinterface 310 11005, .iastore, .iinc 1 1, .goto 278], 0),
  (322, [.iconst 0, .istore 1], 324),
  (324, [.iload 1, .iconst 9, .if_icmp .ge 352, .aload 0, .instanceof 1337, .iload 1, .aload 0, .aload 0, .instanceof 1337, .iload 1, .iaload, .invokeinterface 310 11005, .iastore, .iinc 1 1, .goto 324], 0),
  (352, [.return_], 0)]
/-- 312: GriefWoodModel.keepsLaw()V -/
def mb_312 : List (Nat × List Instr × Nat) := [(0, [.aload 0, .instanceof 1296, .iconst 0, .aload 0, .aload 0, .instanceof 1296, .iconst 0, .iaload, .invokeinterface 310 11005, .iastore, .iconst 0, .istore 1], 18),
  (18, [.iload 1, .iconst 16, .if_icmp .ge 94, .aload 0, .instanceof 1297, .iload 1, .aload 0, .aload 0, .instanceof 1297, .iload 1, .iaload, .invokeinterface 310 11005, .iastore, .aload 0, .instanceof 1298, .iload 1, .aload 0, .aload 0, .instanceof 1298, .iload 1, .iaload, .invokeinterface 310 11005, .iastore, .aload 0, .instanceof 1299, .iload 1, .aload 0, .aload 0, .instanceof 1299, .iload 1, .iaload, .invokeinterface 310 11005, .iastore, .aload 0, .instanceof 1300, .iload 1, .aload 0, .aload 0, .instanceof 1300, .iload 1], 83),
  (83, [.iaload, .invokeinterface 310 11005, .iastore, .iinc 1 1, .goto 18], 0),
  (94, [.iconst 0, .istore 1], 96),
  (96, [.iload 1, .iconst 400, .if_icmp .ge 141, .aload 0, .instanceof 1301, .iload 1, .aload 0, .aload 0, .instanceof 1301, .iload 1, .iaload, .invokeinterface 310 11005, .iastore, .aload 0, .instanceof 1302, .iload 1, .aload 0, .aload 0, .instanceof 1302, .iload 1, .iaload, .invokeinterface 310 11005, .iastore, .iinc 1 1, .goto 96], 0),
  (141, [.return_], 0)]
/-- 313: GriefWoodModel.look(I)I -/
def mb_313 : List (Nat × List Instr × Nat) := [(0, [.aload 0, .iconst 0, .putfield 1280, .iload 1, .ifCond .ne 14, .aload 0, .getfield 1286, .ireturn], 0),
  (14, [.iload 1, .iconst 1, .if_icmp .ne 27, .aload 0, .iconst 5, .iconst 64, .invokeinterface 256 11007, .ireturn], 0),
  (27, [.iload 1, .iconst 2, .if_icmp .ne 37, .aload 0, .invokeinterface 257 11003, .ireturn], 0),
  (37, [.iload 1, .iconst 3, .if_icmp .ne 49, .aload 0, .instanceof 1281, .iconst 3, .iaload, .ireturn], 0),
  (49, [.iload 1, .iconst 4, .if_icmp .ne 61, .aload 0, .instanceof 1281, .iconst 4, .iaload, .ireturn], 0),
  (61, [.iload 1, .iconst 5, .if_icmp .ne 73, .aload 0, .instanceof 1281, .iconst 0, .iaload, .ireturn], 0),
  (73, [.iload 1, .iconst 6, .if_icmp .ne 86, .aload 0, .instanceof 1281, .iconst 2, .iaload, .ireturn], 0),
  (86, [.iload 1, .iconst 7, .if_icmp .ne 99, .aload 0, .instanceof 1281, .iconst 1, .iaload, .ireturn], 0),
  (99, [.iload 1, .iconst 8, .if_icmp .ne 112, .aload 0, .instanceof 1296, .iconst 0, .iaload, .ireturn], 0),
  (112, [.iload 1, .iconst 9, .if_icmp .ne 123, .aload 0, .getfield 1312, .ireturn], 0),
  (123, [.iload 1, .iconst 10, .if_icmp .ne 134, .aload 0, .getfield 1314, .ireturn], 0),
  (134, [.iload 1, .iconst 11, .if_icmp .ne 145, .aload 0, .getfield 1317, .ireturn], 0),
  (145, [.iload 1, .iconst 12, .if_icmp .ne 158, .aload 0, .getfield 1283, .goto 161], 0),
  (158, [.iconst (-100000)], 161),
  (161, [.ireturn], 0)]
def mbL : List (List (Nat × List Instr × Nat)) := [mb_0, mb_1, mb_2, mb_3, mb_4, mb_5, mb_6, mb_7, mb_8, mb_9, mb_10, mb_11, mb_12, mb_13, mb_14, mb_15, mb_16, mb_17, mb_18, mb_19, mb_20, mb_21, mb_22, mb_23, mb_24, mb_25, mb_26, mb_27, mb_28, mb_29, mb_30, mb_31, mb_32, mb_33, mb_34, mb_35, mb_36, mb_37, mb_38, mb_39, mb_40, mb_41, mb_42, mb_43, mb_44, mb_45, mb_46, mb_47, mb_48, mb_49, mb_50, mb_51, mb_52, mb_53, mb_54, mb_55, mb_56, mb_57, mb_58, mb_59, mb_60, mb_61, mb_62, mb_63, mb_64, mb_65, mb_66, mb_67, mb_68, mb_69, mb_70, mb_71, mb_72, mb_73, mb_74, mb_75, mb_76, mb_77, mb_78, mb_79, mb_80, mb_81, mb_82, mb_83, mb_84, mb_85, mb_86, mb_87, mb_88, mb_89, mb_90, mb_91, mb_92, mb_93, mb_94, mb_95, mb_96, mb_97, mb_98, mb_99, mb_100, mb_101, mb_102, mb_103, mb_104, mb_105, mb_106, mb_107, mb_108, mb_109, mb_110, mb_111, mb_112, mb_113, mb_114, mb_115, mb_116, mb_117, mb_118, mb_119, mb_120, mb_121, mb_122, mb_123, mb_124, mb_125, mb_126, mb_127, mb_128, mb_129, mb_130, mb_131, mb_132, mb_133, mb_134, mb_135, mb_136, mb_137, mb_138, mb_139, mb_140, mb_141, mb_142, mb_143, mb_144, mb_145, mb_146, mb_147, mb_148, mb_149, mb_150, mb_151, mb_152, mb_153, mb_154, mb_155, mb_156, mb_157, mb_158, mb_159, mb_160, mb_161, mb_162, mb_163, mb_164, mb_165, mb_166, mb_167, mb_168, mb_169, mb_170, mb_171, mb_172, mb_173, mb_174, mb_175, mb_176, mb_177, mb_178, mb_179, mb_180, mb_181, mb_182, mb_183, mb_184, mb_185, mb_186, mb_187, mb_188, mb_189, mb_190, mb_191, mb_192, mb_193, mb_194, mb_195, mb_196, mb_197, mb_198, mb_199, mb_200, mb_201, mb_202, mb_203, mb_204, mb_205, mb_206, mb_207, mb_208, mb_209, mb_210, mb_211, mb_212, mb_213, mb_214, mb_215, mb_216, mb_217, mb_218, mb_219, mb_220, mb_221, mb_222, mb_223, mb_224, mb_225, mb_226, mb_227, mb_228, mb_229, mb_230, mb_231, mb_232, mb_233, mb_234, mb_235, mb_236, mb_237, mb_238, mb_239, mb_240, mb_241, mb_242, mb_243, mb_244, mb_245, mb_246, mb_247, mb_248, mb_249, mb_250, mb_251, mb_252, mb_253, mb_254, mb_255, mb_256, mb_257, mb_258, mb_259, mb_260, mb_261, mb_262, mb_263, mb_264, mb_265, mb_266, mb_267, mb_268, mb_269, mb_270, mb_271, mb_272, mb_273, mb_274, mb_275, mb_276, mb_277, mb_278, mb_279, mb_280, mb_281, mb_282, mb_283, mb_284, mb_285, mb_286, mb_287, mb_288, mb_289, mb_290, mb_291, mb_292, mb_293, mb_294, mb_295, mb_296, mb_297, mb_298, mb_299, mb_300, mb_301, mb_302, mb_303, mb_304, mb_305, mb_306, mb_307, mb_308, mb_309, mb_310, mb_311, mb_312, mb_313]
/-- THE PROGRAM: method, place: instructions, where it falls to -/
def TB (j pc : Nat) : List Instr × Nat := look3 (mbL.getD j []) pc
