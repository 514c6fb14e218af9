/-! ===== the methods: their words ===== -/
set_option maxRecDepth 100000 in
theorem cw_1 : wd 1027 = some (Cond.code (yn 1) (bc 1) (ml 1) (rt 1)) := rfl
set_option maxRecDepth 100000 in
theorem cw_2 : wd 1035 = some (Cond.code (yn 2) (bc 2) (ml 2) (rt 2)) := rfl
set_option maxRecDepth 100000 in
theorem cw_3 : wd 1041 = some (Cond.code (yn 3) (bc 3) (ml 3) (rt 3)) := rfl
set_option maxRecDepth 100000 in
theorem cw_4 : wd 1130 = some (Cond.code (yn 4) (bc 4) (ml 4) (rt 4)) := rfl
set_option maxRecDepth 100000 in
theorem cw_5 : wd 1171 = some (Cond.code (yn 5) (bc 5) (ml 5) (rt 5)) := rfl
set_option maxRecDepth 100000 in
theorem cw_6 : wd 1211 = some (Cond.code (yn 6) (bc 6) (ml 6) (rt 6)) := rfl
set_option maxRecDepth 100000 in
theorem cw_7 : wd 1217 = some (Cond.code (yn 7) (bc 7) (ml 7) (rt 7)) := rfl
set_option maxRecDepth 100000 in
theorem cw_8 : wd 2002 = some (Cond.code (yn 8) (bc 8) (ml 8) (rt 8)) := rfl
set_option maxRecDepth 100000 in
theorem cw_9 : wd 2078 = some (Cond.code (yn 9) (bc 9) (ml 9) (rt 9)) := rfl
set_option maxRecDepth 100000 in
theorem cw_10 : wd 2084 = some (Cond.code (yn 10) (bc 10) (ml 10) (rt 10)) := rfl
set_option maxRecDepth 100000 in
theorem cw_11 : wd 2176 = some (Cond.code (yn 11) (bc 11) (ml 11) (rt 11)) := rfl
set_option maxRecDepth 100000 in
theorem cw_12 : wd 2180 = some (Cond.code (yn 12) (bc 12) (ml 12) (rt 12)) := rfl
set_option maxRecDepth 100000 in
theorem cw_13 : wd 2184 = some (Cond.code (yn 13) (bc 13) (ml 13) (rt 13)) := rfl
set_option maxRecDepth 100000 in
theorem cw_14 : wd 2187 = some (Cond.code (yn 14) (bc 14) (ml 14) (rt 14)) := rfl
set_option maxRecDepth 100000 in
theorem cw_15 : wd 2190 = some (Cond.code (yn 15) (bc 15) (ml 15) (rt 15)) := rfl
set_option maxRecDepth 100000 in
theorem cw_16 : wd 2194 = some (Cond.code (yn 16) (bc 16) (ml 16) (rt 16)) := rfl
set_option maxRecDepth 100000 in
theorem cw_17 : wd 2198 = some (Cond.code (yn 17) (bc 17) (ml 17) (rt 17)) := rfl
set_option maxRecDepth 100000 in
theorem cw_18 : wd 2202 = some (Cond.code (yn 18) (bc 18) (ml 18) (rt 18)) := rfl
set_option maxRecDepth 100000 in
theorem cw_19 : wd 2206 = some (Cond.code (yn 19) (bc 19) (ml 19) (rt 19)) := rfl
set_option maxRecDepth 100000 in
theorem cw_20 : wd 2210 = some (Cond.code (yn 20) (bc 20) (ml 20) (rt 20)) := rfl
set_option maxRecDepth 100000 in
theorem cw_21 : wd 2220 = some (Cond.code (yn 21) (bc 21) (ml 21) (rt 21)) := rfl
set_option maxRecDepth 100000 in
theorem cw_22 : wd 2224 = some (Cond.code (yn 22) (bc 22) (ml 22) (rt 22)) := rfl
set_option maxRecDepth 100000 in
theorem cw_23 : wd 2227 = some (Cond.code (yn 23) (bc 23) (ml 23) (rt 23)) := rfl
set_option maxRecDepth 100000 in
theorem cw_24 : wd 2236 = some (Cond.code (yn 24) (bc 24) (ml 24) (rt 24)) := rfl
set_option maxRecDepth 100000 in
theorem cw_25 : wd 3000 = some (Cond.code (yn 25) (bc 25) (ml 25) (rt 25)) := rfl
set_option maxRecDepth 100000 in
theorem cw_26 : wd 3006 = some (Cond.code (yn 26) (bc 26) (ml 26) (rt 26)) := rfl
set_option maxRecDepth 100000 in
theorem cw_27 : wd 3009 = some (Cond.code (yn 27) (bc 27) (ml 27) (rt 27)) := rfl
set_option maxRecDepth 100000 in
theorem cw_28 : wd 3012 = some (Cond.code (yn 28) (bc 28) (ml 28) (rt 28)) := rfl
set_option maxRecDepth 100000 in
theorem cw_29 : wd 3015 = some (Cond.code (yn 29) (bc 29) (ml 29) (rt 29)) := rfl
set_option maxRecDepth 100000 in
theorem cw_30 : wd 3019 = some (Cond.code (yn 30) (bc 30) (ml 30) (rt 30)) := rfl
set_option maxRecDepth 100000 in
theorem cw_31 : wd 3023 = some (Cond.code (yn 31) (bc 31) (ml 31) (rt 31)) := rfl
set_option maxRecDepth 100000 in
theorem cw_32 : wd 3030 = some (Cond.code (yn 32) (bc 32) (ml 32) (rt 32)) := rfl
set_option maxRecDepth 100000 in
theorem cw_33 : wd 3034 = some (Cond.code (yn 33) (bc 33) (ml 33) (rt 33)) := rfl
set_option maxRecDepth 100000 in
theorem cw_34 : wd 3039 = some (Cond.code (yn 34) (bc 34) (ml 34) (rt 34)) := rfl
set_option maxRecDepth 100000 in
theorem cw_35 : wd 3043 = some (Cond.code (yn 35) (bc 35) (ml 35) (rt 35)) := rfl
set_option maxRecDepth 100000 in
theorem cw_36 : wd 3047 = some (Cond.code (yn 36) (bc 36) (ml 36) (rt 36)) := rfl
set_option maxRecDepth 100000 in
theorem cw_37 : wd 3054 = some (Cond.code (yn 37) (bc 37) (ml 37) (rt 37)) := rfl
set_option maxRecDepth 100000 in
theorem cw_38 : wd 3058 = some (Cond.code (yn 38) (bc 38) (ml 38) (rt 38)) := rfl
set_option maxRecDepth 100000 in
theorem cw_39 : wd 3062 = some (Cond.code (yn 39) (bc 39) (ml 39) (rt 39)) := rfl
set_option maxRecDepth 100000 in
theorem cw_40 : wd 3066 = some (Cond.code (yn 40) (bc 40) (ml 40) (rt 40)) := rfl
set_option maxRecDepth 100000 in
theorem cw_41 : wd 3071 = some (Cond.code (yn 41) (bc 41) (ml 41) (rt 41)) := rfl
set_option maxRecDepth 100000 in
theorem cw_42 : wd 3074 = some (Cond.code (yn 42) (bc 42) (ml 42) (rt 42)) := rfl
set_option maxRecDepth 100000 in
theorem cw_43 : wd 3077 = some (Cond.code (yn 43) (bc 43) (ml 43) (rt 43)) := rfl
set_option maxRecDepth 100000 in
theorem cw_44 : wd 3080 = some (Cond.code (yn 44) (bc 44) (ml 44) (rt 44)) := rfl
set_option maxRecDepth 100000 in
theorem cw_45 : wd 3083 = some (Cond.code (yn 45) (bc 45) (ml 45) (rt 45)) := rfl
set_option maxRecDepth 100000 in
theorem cw_46 : wd 3087 = some (Cond.code (yn 46) (bc 46) (ml 46) (rt 46)) := rfl
set_option maxRecDepth 100000 in
theorem cw_47 : wd 3091 = some (Cond.code (yn 47) (bc 47) (ml 47) (rt 47)) := rfl
set_option maxRecDepth 100000 in
theorem cw_48 : wd 3097 = some (Cond.code (yn 48) (bc 48) (ml 48) (rt 48)) := rfl
set_option maxRecDepth 100000 in
theorem cw_49 : wd 3101 = some (Cond.code (yn 49) (bc 49) (ml 49) (rt 49)) := rfl
set_option maxRecDepth 100000 in
theorem cw_50 : wd 3104 = some (Cond.code (yn 50) (bc 50) (ml 50) (rt 50)) := rfl
set_option maxRecDepth 100000 in
theorem cw_51 : wd 3107 = some (Cond.code (yn 51) (bc 51) (ml 51) (rt 51)) := rfl
set_option maxRecDepth 100000 in
theorem cw_52 : wd 3112 = some (Cond.code (yn 52) (bc 52) (ml 52) (rt 52)) := rfl
set_option maxRecDepth 100000 in
theorem cw_53 : wd 3134 = some (Cond.code (yn 53) (bc 53) (ml 53) (rt 53)) := rfl
set_option maxRecDepth 100000 in
theorem cw_54 : wd 3139 = some (Cond.code (yn 54) (bc 54) (ml 54) (rt 54)) := rfl
set_option maxRecDepth 100000 in
theorem cw_55 : wd 3143 = some (Cond.code (yn 55) (bc 55) (ml 55) (rt 55)) := rfl
set_option maxRecDepth 100000 in
theorem cw_56 : wd 3147 = some (Cond.code (yn 56) (bc 56) (ml 56) (rt 56)) := rfl
set_option maxRecDepth 100000 in
theorem cw_57 : wd 3150 = some (Cond.code (yn 57) (bc 57) (ml 57) (rt 57)) := rfl
set_option maxRecDepth 100000 in
theorem cw_58 : wd 3155 = some (Cond.code (yn 58) (bc 58) (ml 58) (rt 58)) := rfl
set_option maxRecDepth 100000 in
theorem cw_59 : wd 3194 = some (Cond.code (yn 59) (bc 59) (ml 59) (rt 59)) := rfl
set_option maxRecDepth 100000 in
theorem cw_60 : wd 3199 = some (Cond.code (yn 60) (bc 60) (ml 60) (rt 60)) := rfl
set_option maxRecDepth 100000 in
theorem cw_61 : wd 3203 = some (Cond.code (yn 61) (bc 61) (ml 61) (rt 61)) := rfl
set_option maxRecDepth 100000 in
theorem cw_62 : wd 3207 = some (Cond.code (yn 62) (bc 62) (ml 62) (rt 62)) := rfl
set_option maxRecDepth 100000 in
theorem cw_63 : wd 3213 = some (Cond.code (yn 63) (bc 63) (ml 63) (rt 63)) := rfl
set_option maxRecDepth 100000 in
theorem cw_64 : wd 3217 = some (Cond.code (yn 64) (bc 64) (ml 64) (rt 64)) := rfl
set_option maxRecDepth 100000 in
theorem cw_65 : wd 3221 = some (Cond.code (yn 65) (bc 65) (ml 65) (rt 65)) := rfl
set_option maxRecDepth 100000 in
theorem cw_66 : wd 3225 = some (Cond.code (yn 66) (bc 66) (ml 66) (rt 66)) := rfl
set_option maxRecDepth 100000 in
theorem cw_67 : wd 3229 = some (Cond.code (yn 67) (bc 67) (ml 67) (rt 67)) := rfl
set_option maxRecDepth 100000 in
theorem cw_68 : wd 3234 = some (Cond.code (yn 68) (bc 68) (ml 68) (rt 68)) := rfl
set_option maxRecDepth 100000 in
theorem cw_69 : wd 3238 = some (Cond.code (yn 69) (bc 69) (ml 69) (rt 69)) := rfl
set_option maxRecDepth 100000 in
theorem cw_70 : wd 4004 = some (Cond.code (yn 70) (bc 70) (ml 70) (rt 70)) := rfl
set_option maxRecDepth 100000 in
theorem cw_71 : wd 4008 = some (Cond.code (yn 71) (bc 71) (ml 71) (rt 71)) := rfl
set_option maxRecDepth 100000 in
theorem cw_72 : wd 4012 = some (Cond.code (yn 72) (bc 72) (ml 72) (rt 72)) := rfl
set_option maxRecDepth 100000 in
theorem cw_73 : wd 4016 = some (Cond.code (yn 73) (bc 73) (ml 73) (rt 73)) := rfl
set_option maxRecDepth 100000 in
theorem cw_74 : wd 4020 = some (Cond.code (yn 74) (bc 74) (ml 74) (rt 74)) := rfl
set_option maxRecDepth 100000 in
theorem cw_75 : wd 4025 = some (Cond.code (yn 75) (bc 75) (ml 75) (rt 75)) := rfl
set_option maxRecDepth 100000 in
theorem cw_76 : wd 4029 = some (Cond.code (yn 76) (bc 76) (ml 76) (rt 76)) := rfl
set_option maxRecDepth 100000 in
theorem cw_77 : wd 4033 = some (Cond.code (yn 77) (bc 77) (ml 77) (rt 77)) := rfl
set_option maxRecDepth 100000 in
theorem cw_78 : wd 4038 = some (Cond.code (yn 78) (bc 78) (ml 78) (rt 78)) := rfl
set_option maxRecDepth 100000 in
theorem cw_79 : wd 4043 = some (Cond.code (yn 79) (bc 79) (ml 79) (rt 79)) := rfl
set_option maxRecDepth 100000 in
theorem cw_80 : wd 4051 = some (Cond.code (yn 80) (bc 80) (ml 80) (rt 80)) := rfl
set_option maxRecDepth 100000 in
theorem cw_81 : wd 4055 = some (Cond.code (yn 81) (bc 81) (ml 81) (rt 81)) := rfl
set_option maxRecDepth 100000 in
theorem cw_82 : wd 4061 = some (Cond.code (yn 82) (bc 82) (ml 82) (rt 82)) := rfl
set_option maxRecDepth 100000 in
theorem cw_83 : wd 4065 = some (Cond.code (yn 83) (bc 83) (ml 83) (rt 83)) := rfl
set_option maxRecDepth 100000 in
theorem cw_84 : wd 4069 = some (Cond.code (yn 84) (bc 84) (ml 84) (rt 84)) := rfl
set_option maxRecDepth 100000 in
theorem cw_85 : wd 4073 = some (Cond.code (yn 85) (bc 85) (ml 85) (rt 85)) := rfl
set_option maxRecDepth 100000 in
theorem cw_86 : wd 4078 = some (Cond.code (yn 86) (bc 86) (ml 86) (rt 86)) := rfl
set_option maxRecDepth 100000 in
theorem cw_87 : wd 4083 = some (Cond.code (yn 87) (bc 87) (ml 87) (rt 87)) := rfl
set_option maxRecDepth 100000 in
theorem cw_88 : wd 4088 = some (Cond.code (yn 88) (bc 88) (ml 88) (rt 88)) := rfl
set_option maxRecDepth 100000 in
theorem cw_89 : wd 4092 = some (Cond.code (yn 89) (bc 89) (ml 89) (rt 89)) := rfl
set_option maxRecDepth 100000 in
theorem cw_90 : wd 4096 = some (Cond.code (yn 90) (bc 90) (ml 90) (rt 90)) := rfl
set_option maxRecDepth 100000 in
theorem cw_91 : wd 4100 = some (Cond.code (yn 91) (bc 91) (ml 91) (rt 91)) := rfl
set_option maxRecDepth 100000 in
theorem cw_92 : wd 4105 = some (Cond.code (yn 92) (bc 92) (ml 92) (rt 92)) := rfl
set_option maxRecDepth 100000 in
theorem cw_93 : wd 4110 = some (Cond.code (yn 93) (bc 93) (ml 93) (rt 93)) := rfl
set_option maxRecDepth 100000 in
theorem cw_94 : wd 4114 = some (Cond.code (yn 94) (bc 94) (ml 94) (rt 94)) := rfl
set_option maxRecDepth 100000 in
theorem cw_95 : wd 4118 = some (Cond.code (yn 95) (bc 95) (ml 95) (rt 95)) := rfl
set_option maxRecDepth 100000 in
theorem cw_96 : wd 4121 = some (Cond.code (yn 96) (bc 96) (ml 96) (rt 96)) := rfl
set_option maxRecDepth 100000 in
theorem cw_97 : wd 4125 = some (Cond.code (yn 97) (bc 97) (ml 97) (rt 97)) := rfl
set_option maxRecDepth 100000 in
theorem cw_98 : wd 4129 = some (Cond.code (yn 98) (bc 98) (ml 98) (rt 98)) := rfl
set_option maxRecDepth 100000 in
theorem cw_99 : wd 4132 = some (Cond.code (yn 99) (bc 99) (ml 99) (rt 99)) := rfl
set_option maxRecDepth 100000 in
theorem cw_100 : wd 4137 = some (Cond.code (yn 100) (bc 100) (ml 100) (rt 100)) := rfl
set_option maxRecDepth 100000 in
theorem cw_101 : wd 4140 = some (Cond.code (yn 101) (bc 101) (ml 101) (rt 101)) := rfl
set_option maxRecDepth 100000 in
theorem cw_102 : wd 4143 = some (Cond.code (yn 102) (bc 102) (ml 102) (rt 102)) := rfl
set_option maxRecDepth 100000 in
theorem cw_103 : wd 4150 = some (Cond.code (yn 103) (bc 103) (ml 103) (rt 103)) := rfl
set_option maxRecDepth 100000 in
theorem cw_104 : wd 4153 = some (Cond.code (yn 104) (bc 104) (ml 104) (rt 104)) := rfl
set_option maxRecDepth 100000 in
theorem cw_105 : wd 4156 = some (Cond.code (yn 105) (bc 105) (ml 105) (rt 105)) := rfl
set_option maxRecDepth 100000 in
theorem cw_106 : wd 4163 = some (Cond.code (yn 106) (bc 106) (ml 106) (rt 106)) := rfl
set_option maxRecDepth 100000 in
theorem cw_107 : wd 4169 = some (Cond.code (yn 107) (bc 107) (ml 107) (rt 107)) := rfl
set_option maxRecDepth 100000 in
theorem cw_108 : wd 4173 = some (Cond.code (yn 108) (bc 108) (ml 108) (rt 108)) := rfl
set_option maxRecDepth 100000 in
theorem cw_109 : wd 4176 = some (Cond.code (yn 109) (bc 109) (ml 109) (rt 109)) := rfl
set_option maxRecDepth 100000 in
theorem cw_110 : wd 4180 = some (Cond.code (yn 110) (bc 110) (ml 110) (rt 110)) := rfl
set_option maxRecDepth 100000 in
theorem cw_111 : wd 4190 = some (Cond.code (yn 111) (bc 111) (ml 111) (rt 111)) := rfl
set_option maxRecDepth 100000 in
theorem cw_112 : wd 4194 = some (Cond.code (yn 112) (bc 112) (ml 112) (rt 112)) := rfl
set_option maxRecDepth 100000 in
theorem cw_113 : wd 4199 = some (Cond.code (yn 113) (bc 113) (ml 113) (rt 113)) := rfl
set_option maxRecDepth 100000 in
theorem cw_114 : wd 4202 = some (Cond.code (yn 114) (bc 114) (ml 114) (rt 114)) := rfl
set_option maxRecDepth 100000 in
theorem cw_115 : wd 4206 = some (Cond.code (yn 115) (bc 115) (ml 115) (rt 115)) := rfl
set_option maxRecDepth 100000 in
theorem cw_116 : wd 4211 = some (Cond.code (yn 116) (bc 116) (ml 116) (rt 116)) := rfl
set_option maxRecDepth 100000 in
theorem cw_117 : wd 4214 = some (Cond.code (yn 117) (bc 117) (ml 117) (rt 117)) := rfl
set_option maxRecDepth 100000 in
theorem cw_118 : wd 4217 = some (Cond.code (yn 118) (bc 118) (ml 118) (rt 118)) := rfl
set_option maxRecDepth 100000 in
theorem cw_119 : wd 4220 = some (Cond.code (yn 119) (bc 119) (ml 119) (rt 119)) := rfl
set_option maxRecDepth 100000 in
theorem cw_120 : wd 4224 = some (Cond.code (yn 120) (bc 120) (ml 120) (rt 120)) := rfl
set_option maxRecDepth 100000 in
theorem cw_121 : wd 4227 = some (Cond.code (yn 121) (bc 121) (ml 121) (rt 121)) := rfl
set_option maxRecDepth 100000 in
theorem cw_122 : wd 4232 = some (Cond.code (yn 122) (bc 122) (ml 122) (rt 122)) := rfl
set_option maxRecDepth 100000 in
theorem cw_123 : wd 4235 = some (Cond.code (yn 123) (bc 123) (ml 123) (rt 123)) := rfl
set_option maxRecDepth 100000 in
theorem cw_124 : wd 4239 = some (Cond.code (yn 124) (bc 124) (ml 124) (rt 124)) := rfl
set_option maxRecDepth 100000 in
theorem cw_125 : wd 5003 = some (Cond.code (yn 125) (bc 125) (ml 125) (rt 125)) := rfl
set_option maxRecDepth 100000 in
theorem cw_126 : wd 5007 = some (Cond.code (yn 126) (bc 126) (ml 126) (rt 126)) := rfl
set_option maxRecDepth 100000 in
theorem cw_127 : wd 5010 = some (Cond.code (yn 127) (bc 127) (ml 127) (rt 127)) := rfl
set_option maxRecDepth 100000 in
theorem cw_128 : wd 5014 = some (Cond.code (yn 128) (bc 128) (ml 128) (rt 128)) := rfl
set_option maxRecDepth 100000 in
theorem cw_129 : wd 5018 = some (Cond.code (yn 129) (bc 129) (ml 129) (rt 129)) := rfl
set_option maxRecDepth 100000 in
theorem cw_130 : wd 5022 = some (Cond.code (yn 130) (bc 130) (ml 130) (rt 130)) := rfl
set_option maxRecDepth 100000 in
theorem cw_131 : wd 5025 = some (Cond.code (yn 131) (bc 131) (ml 131) (rt 131)) := rfl
set_option maxRecDepth 100000 in
theorem cw_132 : wd 5029 = some (Cond.code (yn 132) (bc 132) (ml 132) (rt 132)) := rfl
set_option maxRecDepth 100000 in
theorem cw_133 : wd 5032 = some (Cond.code (yn 133) (bc 133) (ml 133) (rt 133)) := rfl
set_option maxRecDepth 100000 in
theorem cw_134 : wd 5036 = some (Cond.code (yn 134) (bc 134) (ml 134) (rt 134)) := rfl
set_option maxRecDepth 100000 in
theorem cw_135 : wd 5040 = some (Cond.code (yn 135) (bc 135) (ml 135) (rt 135)) := rfl
set_option maxRecDepth 100000 in
theorem cw_136 : wd 5044 = some (Cond.code (yn 136) (bc 136) (ml 136) (rt 136)) := rfl
set_option maxRecDepth 100000 in
theorem cw_137 : wd 5047 = some (Cond.code (yn 137) (bc 137) (ml 137) (rt 137)) := rfl
set_option maxRecDepth 100000 in
theorem cw_138 : wd 5050 = some (Cond.code (yn 138) (bc 138) (ml 138) (rt 138)) := rfl
set_option maxRecDepth 100000 in
theorem cw_139 : wd 5054 = some (Cond.code (yn 139) (bc 139) (ml 139) (rt 139)) := rfl
set_option maxRecDepth 100000 in
theorem cw_140 : wd 5057 = some (Cond.code (yn 140) (bc 140) (ml 140) (rt 140)) := rfl
set_option maxRecDepth 100000 in
theorem cw_141 : wd 5060 = some (Cond.code (yn 141) (bc 141) (ml 141) (rt 141)) := rfl
set_option maxRecDepth 100000 in
theorem cw_142 : wd 5064 = some (Cond.code (yn 142) (bc 142) (ml 142) (rt 142)) := rfl
set_option maxRecDepth 100000 in
theorem cw_143 : wd 5068 = some (Cond.code (yn 143) (bc 143) (ml 143) (rt 143)) := rfl
set_option maxRecDepth 100000 in
theorem cw_144 : wd 5071 = some (Cond.code (yn 144) (bc 144) (ml 144) (rt 144)) := rfl
set_option maxRecDepth 100000 in
theorem cw_145 : wd 5074 = some (Cond.code (yn 145) (bc 145) (ml 145) (rt 145)) := rfl
set_option maxRecDepth 100000 in
theorem cw_146 : wd 5078 = some (Cond.code (yn 146) (bc 146) (ml 146) (rt 146)) := rfl
set_option maxRecDepth 100000 in
theorem cw_147 : wd 5082 = some (Cond.code (yn 147) (bc 147) (ml 147) (rt 147)) := rfl
set_option maxRecDepth 100000 in
theorem cw_148 : wd 5087 = some (Cond.code (yn 148) (bc 148) (ml 148) (rt 148)) := rfl
set_option maxRecDepth 100000 in
theorem cw_149 : wd 5091 = some (Cond.code (yn 149) (bc 149) (ml 149) (rt 149)) := rfl
set_option maxRecDepth 100000 in
theorem cw_150 : wd 5094 = some (Cond.code (yn 150) (bc 150) (ml 150) (rt 150)) := rfl
set_option maxRecDepth 100000 in
theorem cw_151 : wd 5097 = some (Cond.code (yn 151) (bc 151) (ml 151) (rt 151)) := rfl
set_option maxRecDepth 100000 in
theorem cw_152 : wd 5101 = some (Cond.code (yn 152) (bc 152) (ml 152) (rt 152)) := rfl
set_option maxRecDepth 100000 in
theorem cw_153 : wd 5104 = some (Cond.code (yn 153) (bc 153) (ml 153) (rt 153)) := rfl
set_option maxRecDepth 100000 in
theorem cw_154 : wd 5109 = some (Cond.code (yn 154) (bc 154) (ml 154) (rt 154)) := rfl
set_option maxRecDepth 100000 in
theorem cw_155 : wd 5112 = some (Cond.code (yn 155) (bc 155) (ml 155) (rt 155)) := rfl
set_option maxRecDepth 100000 in
theorem cw_156 : wd 5116 = some (Cond.code (yn 156) (bc 156) (ml 156) (rt 156)) := rfl
set_option maxRecDepth 100000 in
theorem cw_157 : wd 5119 = some (Cond.code (yn 157) (bc 157) (ml 157) (rt 157)) := rfl
set_option maxRecDepth 100000 in
theorem cw_158 : wd 5123 = some (Cond.code (yn 158) (bc 158) (ml 158) (rt 158)) := rfl
set_option maxRecDepth 100000 in
theorem cw_159 : wd 5127 = some (Cond.code (yn 159) (bc 159) (ml 159) (rt 159)) := rfl
set_option maxRecDepth 100000 in
theorem cw_160 : wd 5131 = some (Cond.code (yn 160) (bc 160) (ml 160) (rt 160)) := rfl
set_option maxRecDepth 100000 in
theorem cw_161 : wd 5135 = some (Cond.code (yn 161) (bc 161) (ml 161) (rt 161)) := rfl
set_option maxRecDepth 100000 in
theorem cw_162 : wd 5139 = some (Cond.code (yn 162) (bc 162) (ml 162) (rt 162)) := rfl
set_option maxRecDepth 100000 in
theorem cw_163 : wd 5142 = some (Cond.code (yn 163) (bc 163) (ml 163) (rt 163)) := rfl
set_option maxRecDepth 100000 in
theorem cw_164 : wd 5145 = some (Cond.code (yn 164) (bc 164) (ml 164) (rt 164)) := rfl
set_option maxRecDepth 100000 in
theorem cw_165 : wd 5148 = some (Cond.code (yn 165) (bc 165) (ml 165) (rt 165)) := rfl
set_option maxRecDepth 100000 in
theorem cw_166 : wd 5151 = some (Cond.code (yn 166) (bc 166) (ml 166) (rt 166)) := rfl
set_option maxRecDepth 100000 in
theorem cw_167 : wd 5157 = some (Cond.code (yn 167) (bc 167) (ml 167) (rt 167)) := rfl
set_option maxRecDepth 100000 in
theorem cw_168 : wd 5160 = some (Cond.code (yn 168) (bc 168) (ml 168) (rt 168)) := rfl
set_option maxRecDepth 100000 in
theorem cw_169 : wd 5163 = some (Cond.code (yn 169) (bc 169) (ml 169) (rt 169)) := rfl
set_option maxRecDepth 100000 in
theorem cw_170 : wd 5168 = some (Cond.code (yn 170) (bc 170) (ml 170) (rt 170)) := rfl
set_option maxRecDepth 100000 in
theorem cw_171 : wd 5172 = some (Cond.code (yn 171) (bc 171) (ml 171) (rt 171)) := rfl
set_option maxRecDepth 100000 in
theorem cw_172 : wd 5176 = some (Cond.code (yn 172) (bc 172) (ml 172) (rt 172)) := rfl
set_option maxRecDepth 100000 in
theorem cw_173 : wd 5183 = some (Cond.code (yn 173) (bc 173) (ml 173) (rt 173)) := rfl
set_option maxRecDepth 100000 in
theorem cw_174 : wd 5188 = some (Cond.code (yn 174) (bc 174) (ml 174) (rt 174)) := rfl
set_option maxRecDepth 100000 in
theorem cw_175 : wd 5194 = some (Cond.code (yn 175) (bc 175) (ml 175) (rt 175)) := rfl
set_option maxRecDepth 100000 in
theorem cw_176 : wd 5200 = some (Cond.code (yn 176) (bc 176) (ml 176) (rt 176)) := rfl
set_option maxRecDepth 100000 in
theorem cw_177 : wd 5206 = some (Cond.code (yn 177) (bc 177) (ml 177) (rt 177)) := rfl
set_option maxRecDepth 100000 in
theorem cw_178 : wd 6179 = some (Cond.code (yn 178) (bc 178) (ml 178) (rt 178)) := rfl
set_option maxRecDepth 100000 in
theorem cw_179 : wd 6183 = some (Cond.code (yn 179) (bc 179) (ml 179) (rt 179)) := rfl
set_option maxRecDepth 100000 in
theorem cw_180 : wd 6187 = some (Cond.code (yn 180) (bc 180) (ml 180) (rt 180)) := rfl
set_option maxRecDepth 100000 in
theorem cw_181 : wd 6191 = some (Cond.code (yn 181) (bc 181) (ml 181) (rt 181)) := rfl
set_option maxRecDepth 100000 in
theorem cw_182 : wd 6195 = some (Cond.code (yn 182) (bc 182) (ml 182) (rt 182)) := rfl
set_option maxRecDepth 100000 in
theorem cw_183 : wd 6199 = some (Cond.code (yn 183) (bc 183) (ml 183) (rt 183)) := rfl
set_option maxRecDepth 100000 in
theorem cw_184 : wd 6203 = some (Cond.code (yn 184) (bc 184) (ml 184) (rt 184)) := rfl
set_option maxRecDepth 100000 in
theorem cw_185 : wd 6207 = some (Cond.code (yn 185) (bc 185) (ml 185) (rt 185)) := rfl
set_option maxRecDepth 100000 in
theorem cw_186 : wd 6211 = some (Cond.code (yn 186) (bc 186) (ml 186) (rt 186)) := rfl
set_option maxRecDepth 100000 in
theorem cw_187 : wd 6215 = some (Cond.code (yn 187) (bc 187) (ml 187) (rt 187)) := rfl
set_option maxRecDepth 100000 in
theorem cw_188 : wd 6219 = some (Cond.code (yn 188) (bc 188) (ml 188) (rt 188)) := rfl
set_option maxRecDepth 100000 in
theorem cw_189 : wd 6223 = some (Cond.code (yn 189) (bc 189) (ml 189) (rt 189)) := rfl
set_option maxRecDepth 100000 in
theorem cw_190 : wd 6227 = some (Cond.code (yn 190) (bc 190) (ml 190) (rt 190)) := rfl
set_option maxRecDepth 100000 in
theorem cw_191 : wd 6231 = some (Cond.code (yn 191) (bc 191) (ml 191) (rt 191)) := rfl
set_option maxRecDepth 100000 in
theorem cw_192 : wd 6235 = some (Cond.code (yn 192) (bc 192) (ml 192) (rt 192)) := rfl
set_option maxRecDepth 100000 in
theorem cw_193 : wd 6239 = some (Cond.code (yn 193) (bc 193) (ml 193) (rt 193)) := rfl
set_option maxRecDepth 100000 in
theorem cw_194 : wd 7003 = some (Cond.code (yn 194) (bc 194) (ml 194) (rt 194)) := rfl
set_option maxRecDepth 100000 in
theorem cw_195 : wd 7007 = some (Cond.code (yn 195) (bc 195) (ml 195) (rt 195)) := rfl
set_option maxRecDepth 100000 in
theorem cw_196 : wd 7011 = some (Cond.code (yn 196) (bc 196) (ml 196) (rt 196)) := rfl
set_option maxRecDepth 100000 in
theorem cw_197 : wd 7015 = some (Cond.code (yn 197) (bc 197) (ml 197) (rt 197)) := rfl
set_option maxRecDepth 100000 in
theorem cw_198 : wd 7019 = some (Cond.code (yn 198) (bc 198) (ml 198) (rt 198)) := rfl
set_option maxRecDepth 100000 in
theorem cw_199 : wd 7023 = some (Cond.code (yn 199) (bc 199) (ml 199) (rt 199)) := rfl
set_option maxRecDepth 100000 in
theorem cw_200 : wd 7027 = some (Cond.code (yn 200) (bc 200) (ml 200) (rt 200)) := rfl
set_option maxRecDepth 100000 in
theorem cw_201 : wd 7031 = some (Cond.code (yn 201) (bc 201) (ml 201) (rt 201)) := rfl
set_option maxRecDepth 100000 in
theorem cw_202 : wd 7035 = some (Cond.code (yn 202) (bc 202) (ml 202) (rt 202)) := rfl
set_option maxRecDepth 100000 in
theorem cw_203 : wd 7039 = some (Cond.code (yn 203) (bc 203) (ml 203) (rt 203)) := rfl
set_option maxRecDepth 100000 in
theorem cw_204 : wd 7043 = some (Cond.code (yn 204) (bc 204) (ml 204) (rt 204)) := rfl
set_option maxRecDepth 100000 in
theorem cw_205 : wd 7047 = some (Cond.code (yn 205) (bc 205) (ml 205) (rt 205)) := rfl
set_option maxRecDepth 100000 in
theorem cw_206 : wd 7051 = some (Cond.code (yn 206) (bc 206) (ml 206) (rt 206)) := rfl
set_option maxRecDepth 100000 in
theorem cw_207 : wd 7055 = some (Cond.code (yn 207) (bc 207) (ml 207) (rt 207)) := rfl
set_option maxRecDepth 100000 in
theorem cw_208 : wd 7059 = some (Cond.code (yn 208) (bc 208) (ml 208) (rt 208)) := rfl
set_option maxRecDepth 100000 in
theorem cw_209 : wd 7063 = some (Cond.code (yn 209) (bc 209) (ml 209) (rt 209)) := rfl
set_option maxRecDepth 100000 in
theorem cw_210 : wd 7067 = some (Cond.code (yn 210) (bc 210) (ml 210) (rt 210)) := rfl
set_option maxRecDepth 100000 in
theorem cw_211 : wd 7071 = some (Cond.code (yn 211) (bc 211) (ml 211) (rt 211)) := rfl
set_option maxRecDepth 100000 in
theorem cw_212 : wd 7075 = some (Cond.code (yn 212) (bc 212) (ml 212) (rt 212)) := rfl
set_option maxRecDepth 100000 in
theorem cw_213 : wd 7079 = some (Cond.code (yn 213) (bc 213) (ml 213) (rt 213)) := rfl
set_option maxRecDepth 100000 in
theorem cw_214 : wd 7083 = some (Cond.code (yn 214) (bc 214) (ml 214) (rt 214)) := rfl
set_option maxRecDepth 100000 in
theorem cw_215 : wd 7087 = some (Cond.code (yn 215) (bc 215) (ml 215) (rt 215)) := rfl
set_option maxRecDepth 100000 in
theorem cw_216 : wd 7091 = some (Cond.code (yn 216) (bc 216) (ml 216) (rt 216)) := rfl
set_option maxRecDepth 100000 in
theorem cw_217 : wd 7095 = some (Cond.code (yn 217) (bc 217) (ml 217) (rt 217)) := rfl
set_option maxRecDepth 100000 in
theorem cw_218 : wd 7099 = some (Cond.code (yn 218) (bc 218) (ml 218) (rt 218)) := rfl
set_option maxRecDepth 100000 in
theorem cw_219 : wd 7103 = some (Cond.code (yn 219) (bc 219) (ml 219) (rt 219)) := rfl
set_option maxRecDepth 100000 in
theorem cw_220 : wd 7107 = some (Cond.code (yn 220) (bc 220) (ml 220) (rt 220)) := rfl
set_option maxRecDepth 100000 in
theorem cw_221 : wd 7111 = some (Cond.code (yn 221) (bc 221) (ml 221) (rt 221)) := rfl
set_option maxRecDepth 100000 in
theorem cw_222 : wd 7115 = some (Cond.code (yn 222) (bc 222) (ml 222) (rt 222)) := rfl
set_option maxRecDepth 100000 in
theorem cw_223 : wd 7119 = some (Cond.code (yn 223) (bc 223) (ml 223) (rt 223)) := rfl
set_option maxRecDepth 100000 in
theorem cw_224 : wd 7123 = some (Cond.code (yn 224) (bc 224) (ml 224) (rt 224)) := rfl
set_option maxRecDepth 100000 in
theorem cw_225 : wd 7127 = some (Cond.code (yn 225) (bc 225) (ml 225) (rt 225)) := rfl
set_option maxRecDepth 100000 in
theorem cw_226 : wd 7131 = some (Cond.code (yn 226) (bc 226) (ml 226) (rt 226)) := rfl
set_option maxRecDepth 100000 in
theorem cw_227 : wd 7135 = some (Cond.code (yn 227) (bc 227) (ml 227) (rt 227)) := rfl
set_option maxRecDepth 100000 in
theorem cw_228 : wd 7139 = some (Cond.code (yn 228) (bc 228) (ml 228) (rt 228)) := rfl
set_option maxRecDepth 100000 in
theorem cw_229 : wd 7143 = some (Cond.code (yn 229) (bc 229) (ml 229) (rt 229)) := rfl
set_option maxRecDepth 100000 in
theorem cw_230 : wd 7147 = some (Cond.code (yn 230) (bc 230) (ml 230) (rt 230)) := rfl
set_option maxRecDepth 100000 in
theorem cw_231 : wd 7151 = some (Cond.code (yn 231) (bc 231) (ml 231) (rt 231)) := rfl
set_option maxRecDepth 100000 in
theorem cw_232 : wd 7155 = some (Cond.code (yn 232) (bc 232) (ml 232) (rt 232)) := rfl
set_option maxRecDepth 100000 in
theorem cw_233 : wd 7159 = some (Cond.code (yn 233) (bc 233) (ml 233) (rt 233)) := rfl
set_option maxRecDepth 100000 in
theorem cw_234 : wd 7163 = some (Cond.code (yn 234) (bc 234) (ml 234) (rt 234)) := rfl
set_option maxRecDepth 100000 in
theorem cw_235 : wd 7167 = some (Cond.code (yn 235) (bc 235) (ml 235) (rt 235)) := rfl
set_option maxRecDepth 100000 in
theorem cw_236 : wd 7171 = some (Cond.code (yn 236) (bc 236) (ml 236) (rt 236)) := rfl
set_option maxRecDepth 100000 in
theorem cw_237 : wd 7175 = some (Cond.code (yn 237) (bc 237) (ml 237) (rt 237)) := rfl
set_option maxRecDepth 100000 in
theorem cw_238 : wd 7179 = some (Cond.code (yn 238) (bc 238) (ml 238) (rt 238)) := rfl
set_option maxRecDepth 100000 in
theorem cw_239 : wd 7183 = some (Cond.code (yn 239) (bc 239) (ml 239) (rt 239)) := rfl
set_option maxRecDepth 100000 in
theorem cw_240 : wd 7187 = some (Cond.code (yn 240) (bc 240) (ml 240) (rt 240)) := rfl
set_option maxRecDepth 100000 in
theorem cw_241 : wd 7191 = some (Cond.code (yn 241) (bc 241) (ml 241) (rt 241)) := rfl
set_option maxRecDepth 100000 in
theorem cw_242 : wd 7197 = some (Cond.code (yn 242) (bc 242) (ml 242) (rt 242)) := rfl
set_option maxRecDepth 100000 in
theorem cw_243 : wd 7201 = some (Cond.code (yn 243) (bc 243) (ml 243) (rt 243)) := rfl
set_option maxRecDepth 100000 in
theorem cw_244 : wd 7205 = some (Cond.code (yn 244) (bc 244) (ml 244) (rt 244)) := rfl
set_option maxRecDepth 100000 in
theorem cw_245 : wd 7209 = some (Cond.code (yn 245) (bc 245) (ml 245) (rt 245)) := rfl
set_option maxRecDepth 100000 in
theorem cw_246 : wd 7213 = some (Cond.code (yn 246) (bc 246) (ml 246) (rt 246)) := rfl
set_option maxRecDepth 100000 in
theorem cw_247 : wd 7217 = some (Cond.code (yn 247) (bc 247) (ml 247) (rt 247)) := rfl
set_option maxRecDepth 100000 in
theorem cw_248 : wd 7221 = some (Cond.code (yn 248) (bc 248) (ml 248) (rt 248)) := rfl
set_option maxRecDepth 100000 in
theorem cw_249 : wd 7225 = some (Cond.code (yn 249) (bc 249) (ml 249) (rt 249)) := rfl
set_option maxRecDepth 100000 in
theorem cw_250 : wd 7229 = some (Cond.code (yn 250) (bc 250) (ml 250) (rt 250)) := rfl
set_option maxRecDepth 100000 in
theorem cw_251 : wd 7233 = some (Cond.code (yn 251) (bc 251) (ml 251) (rt 251)) := rfl
set_option maxRecDepth 100000 in
theorem cw_252 : wd 7237 = some (Cond.code (yn 252) (bc 252) (ml 252) (rt 252)) := rfl
set_option maxRecDepth 100000 in
theorem cw_253 : wd 8001 = some (Cond.code (yn 253) (bc 253) (ml 253) (rt 253)) := rfl
set_option maxRecDepth 100000 in
theorem cw_254 : wd 8005 = some (Cond.code (yn 254) (bc 254) (ml 254) (rt 254)) := rfl
set_option maxRecDepth 100000 in
theorem cw_255 : wd 8009 = some (Cond.code (yn 255) (bc 255) (ml 255) (rt 255)) := rfl
set_option maxRecDepth 100000 in
theorem cw_256 : wd 8013 = some (Cond.code (yn 256) (bc 256) (ml 256) (rt 256)) := rfl
set_option maxRecDepth 100000 in
theorem cw_257 : wd 8017 = some (Cond.code (yn 257) (bc 257) (ml 257) (rt 257)) := rfl
set_option maxRecDepth 100000 in
theorem cw_258 : wd 8021 = some (Cond.code (yn 258) (bc 258) (ml 258) (rt 258)) := rfl
set_option maxRecDepth 100000 in
theorem cw_259 : wd 8025 = some (Cond.code (yn 259) (bc 259) (ml 259) (rt 259)) := rfl
set_option maxRecDepth 100000 in
theorem cw_260 : wd 8029 = some (Cond.code (yn 260) (bc 260) (ml 260) (rt 260)) := rfl
set_option maxRecDepth 100000 in
theorem cw_261 : wd 8033 = some (Cond.code (yn 261) (bc 261) (ml 261) (rt 261)) := rfl
set_option maxRecDepth 100000 in
theorem cw_262 : wd 8037 = some (Cond.code (yn 262) (bc 262) (ml 262) (rt 262)) := rfl
set_option maxRecDepth 100000 in
theorem cw_263 : wd 8041 = some (Cond.code (yn 263) (bc 263) (ml 263) (rt 263)) := rfl
set_option maxRecDepth 100000 in
theorem cw_264 : wd 8045 = some (Cond.code (yn 264) (bc 264) (ml 264) (rt 264)) := rfl
set_option maxRecDepth 100000 in
theorem cw_265 : wd 8049 = some (Cond.code (yn 265) (bc 265) (ml 265) (rt 265)) := rfl
set_option maxRecDepth 100000 in
theorem cw_266 : wd 8053 = some (Cond.code (yn 266) (bc 266) (ml 266) (rt 266)) := rfl
set_option maxRecDepth 100000 in
theorem cw_267 : wd 8057 = some (Cond.code (yn 267) (bc 267) (ml 267) (rt 267)) := rfl
set_option maxRecDepth 100000 in
theorem cw_268 : wd 8062 = some (Cond.code (yn 268) (bc 268) (ml 268) (rt 268)) := rfl
set_option maxRecDepth 100000 in
theorem cw_269 : wd 8066 = some (Cond.code (yn 269) (bc 269) (ml 269) (rt 269)) := rfl
set_option maxRecDepth 100000 in
theorem cw_270 : wd 8070 = some (Cond.code (yn 270) (bc 270) (ml 270) (rt 270)) := rfl
set_option maxRecDepth 100000 in
theorem cw_271 : wd 8074 = some (Cond.code (yn 271) (bc 271) (ml 271) (rt 271)) := rfl
set_option maxRecDepth 100000 in
theorem cw_272 : wd 8078 = some (Cond.code (yn 272) (bc 272) (ml 272) (rt 272)) := rfl
set_option maxRecDepth 100000 in
theorem cw_273 : wd 8082 = some (Cond.code (yn 273) (bc 273) (ml 273) (rt 273)) := rfl
set_option maxRecDepth 100000 in
theorem cw_274 : wd 8086 = some (Cond.code (yn 274) (bc 274) (ml 274) (rt 274)) := rfl
set_option maxRecDepth 100000 in
theorem cw_275 : wd 8090 = some (Cond.code (yn 275) (bc 275) (ml 275) (rt 275)) := rfl
set_option maxRecDepth 100000 in
theorem cw_276 : wd 8094 = some (Cond.code (yn 276) (bc 276) (ml 276) (rt 276)) := rfl
set_option maxRecDepth 100000 in
theorem cw_277 : wd 8098 = some (Cond.code (yn 277) (bc 277) (ml 277) (rt 277)) := rfl
set_option maxRecDepth 100000 in
theorem cw_278 : wd 8102 = some (Cond.code (yn 278) (bc 278) (ml 278) (rt 278)) := rfl
set_option maxRecDepth 100000 in
theorem cw_279 : wd 8106 = some (Cond.code (yn 279) (bc 279) (ml 279) (rt 279)) := rfl
set_option maxRecDepth 100000 in
theorem cw_280 : wd 8110 = some (Cond.code (yn 280) (bc 280) (ml 280) (rt 280)) := rfl
set_option maxRecDepth 100000 in
theorem cw_281 : wd 8114 = some (Cond.code (yn 281) (bc 281) (ml 281) (rt 281)) := rfl
set_option maxRecDepth 100000 in
theorem cw_282 : wd 8118 = some (Cond.code (yn 282) (bc 282) (ml 282) (rt 282)) := rfl
set_option maxRecDepth 100000 in
theorem cw_283 : wd 8122 = some (Cond.code (yn 283) (bc 283) (ml 283) (rt 283)) := rfl
set_option maxRecDepth 100000 in
theorem cw_284 : wd 8126 = some (Cond.code (yn 284) (bc 284) (ml 284) (rt 284)) := rfl
set_option maxRecDepth 100000 in
theorem cw_285 : wd 8130 = some (Cond.code (yn 285) (bc 285) (ml 285) (rt 285)) := rfl
set_option maxRecDepth 100000 in
theorem cw_286 : wd 8134 = some (Cond.code (yn 286) (bc 286) (ml 286) (rt 286)) := rfl
set_option maxRecDepth 100000 in
theorem cw_287 : wd 8138 = some (Cond.code (yn 287) (bc 287) (ml 287) (rt 287)) := rfl
set_option maxRecDepth 100000 in
theorem cw_288 : wd 8142 = some (Cond.code (yn 288) (bc 288) (ml 288) (rt 288)) := rfl
set_option maxRecDepth 100000 in
theorem cw_289 : wd 8146 = some (Cond.code (yn 289) (bc 289) (ml 289) (rt 289)) := rfl
set_option maxRecDepth 100000 in
theorem cw_290 : wd 8150 = some (Cond.code (yn 290) (bc 290) (ml 290) (rt 290)) := rfl
set_option maxRecDepth 100000 in
theorem cw_291 : wd 8154 = some (Cond.code (yn 291) (bc 291) (ml 291) (rt 291)) := rfl
set_option maxRecDepth 100000 in
theorem cw_292 : wd 8158 = some (Cond.code (yn 292) (bc 292) (ml 292) (rt 292)) := rfl
set_option maxRecDepth 100000 in
theorem cw_293 : wd 8162 = some (Cond.code (yn 293) (bc 293) (ml 293) (rt 293)) := rfl
set_option maxRecDepth 100000 in
theorem cw_294 : wd 8166 = some (Cond.code (yn 294) (bc 294) (ml 294) (rt 294)) := rfl
set_option maxRecDepth 100000 in
theorem cw_295 : wd 8170 = some (Cond.code (yn 295) (bc 295) (ml 295) (rt 295)) := rfl
set_option maxRecDepth 100000 in
theorem cw_296 : wd 8174 = some (Cond.code (yn 296) (bc 296) (ml 296) (rt 296)) := rfl
set_option maxRecDepth 100000 in
theorem cw_297 : wd 8178 = some (Cond.code (yn 297) (bc 297) (ml 297) (rt 297)) := rfl
set_option maxRecDepth 100000 in
theorem cw_298 : wd 8182 = some (Cond.code (yn 298) (bc 298) (ml 298) (rt 298)) := rfl
set_option maxRecDepth 100000 in
theorem cw_299 : wd 8186 = some (Cond.code (yn 299) (bc 299) (ml 299) (rt 299)) := rfl
set_option maxRecDepth 100000 in
theorem cw_300 : wd 8190 = some (Cond.code (yn 300) (bc 300) (ml 300) (rt 300)) := rfl
set_option maxRecDepth 100000 in
theorem cw_301 : wd 8194 = some (Cond.code (yn 301) (bc 301) (ml 301) (rt 301)) := rfl
set_option maxRecDepth 100000 in
theorem cw_302 : wd 8198 = some (Cond.code (yn 302) (bc 302) (ml 302) (rt 302)) := rfl
set_option maxRecDepth 100000 in
theorem cw_303 : wd 8202 = some (Cond.code (yn 303) (bc 303) (ml 303) (rt 303)) := rfl
set_option maxRecDepth 100000 in
theorem cw_304 : wd 8206 = some (Cond.code (yn 304) (bc 304) (ml 304) (rt 304)) := rfl
set_option maxRecDepth 100000 in
theorem cw_305 : wd 8211 = some (Cond.code (yn 305) (bc 305) (ml 305) (rt 305)) := rfl
set_option maxRecDepth 100000 in
theorem cw_306 : wd 8215 = some (Cond.code (yn 306) (bc 306) (ml 306) (rt 306)) := rfl
set_option maxRecDepth 100000 in
theorem cw_307 : wd 8219 = some (Cond.code (yn 307) (bc 307) (ml 307) (rt 307)) := rfl
set_option maxRecDepth 100000 in
theorem cw_308 : wd 8223 = some (Cond.code (yn 308) (bc 308) (ml 308) (rt 308)) := rfl
set_option maxRecDepth 100000 in
theorem cw_309 : wd 8227 = some (Cond.code (yn 309) (bc 309) (ml 309) (rt 309)) := rfl
set_option maxRecDepth 100000 in
theorem cw_310 : wd 8231 = some (Cond.code (yn 310) (bc 310) (ml 310) (rt 310)) := rfl
set_option maxRecDepth 100000 in
theorem cw_311 : wd 8235 = some (Cond.code (yn 311) (bc 311) (ml 311) (rt 311)) := rfl
set_option maxRecDepth 100000 in
theorem cw_312 : wd 8239 = some (Cond.code (yn 312) (bc 312) (ml 312) (rt 312)) := rfl
set_option maxRecDepth 100000 in
theorem cw_313 : wd 9003 = some (Cond.code (yn 313) (bc 313) (ml 313) (rt 313)) := rfl
theorem cw_all (j : Nat) (h0 : 0 < j) (h : j < 314) : Cond.code (yn j) (bc j) (ml j) (rt j) ∈ lw_tbl := by
  match j, h0, h with
  | 1, _, _ => exact wd_mem cw_1
  | 2, _, _ => exact wd_mem cw_2
  | 3, _, _ => exact wd_mem cw_3
  | 4, _, _ => exact wd_mem cw_4
  | 5, _, _ => exact wd_mem cw_5
  | 6, _, _ => exact wd_mem cw_6
  | 7, _, _ => exact wd_mem cw_7
  | 8, _, _ => exact wd_mem cw_8
  | 9, _, _ => exact wd_mem cw_9
  | 10, _, _ => exact wd_mem cw_10
  | 11, _, _ => exact wd_mem cw_11
  | 12, _, _ => exact wd_mem cw_12
  | 13, _, _ => exact wd_mem cw_13
  | 14, _, _ => exact wd_mem cw_14
  | 15, _, _ => exact wd_mem cw_15
  | 16, _, _ => exact wd_mem cw_16
  | 17, _, _ => exact wd_mem cw_17
  | 18, _, _ => exact wd_mem cw_18
  | 19, _, _ => exact wd_mem cw_19
  | 20, _, _ => exact wd_mem cw_20
  | 21, _, _ => exact wd_mem cw_21
  | 22, _, _ => exact wd_mem cw_22
  | 23, _, _ => exact wd_mem cw_23
  | 24, _, _ => exact wd_mem cw_24
  | 25, _, _ => exact wd_mem cw_25
  | 26, _, _ => exact wd_mem cw_26
  | 27, _, _ => exact wd_mem cw_27
  | 28, _, _ => exact wd_mem cw_28
  | 29, _, _ => exact wd_mem cw_29
  | 30, _, _ => exact wd_mem cw_30
  | 31, _, _ => exact wd_mem cw_31
  | 32, _, _ => exact wd_mem cw_32
  | 33, _, _ => exact wd_mem cw_33
  | 34, _, _ => exact wd_mem cw_34
  | 35, _, _ => exact wd_mem cw_35
  | 36, _, _ => exact wd_mem cw_36
  | 37, _, _ => exact wd_mem cw_37
  | 38, _, _ => exact wd_mem cw_38
  | 39, _, _ => exact wd_mem cw_39
  | 40, _, _ => exact wd_mem cw_40
  | 41, _, _ => exact wd_mem cw_41
  | 42, _, _ => exact wd_mem cw_42
  | 43, _, _ => exact wd_mem cw_43
  | 44, _, _ => exact wd_mem cw_44
  | 45, _, _ => exact wd_mem cw_45
  | 46, _, _ => exact wd_mem cw_46
  | 47, _, _ => exact wd_mem cw_47
  | 48, _, _ => exact wd_mem cw_48
  | 49, _, _ => exact wd_mem cw_49
  | 50, _, _ => exact wd_mem cw_50
  | 51, _, _ => exact wd_mem cw_51
  | 52, _, _ => exact wd_mem cw_52
  | 53, _, _ => exact wd_mem cw_53
  | 54, _, _ => exact wd_mem cw_54
  | 55, _, _ => exact wd_mem cw_55
  | 56, _, _ => exact wd_mem cw_56
  | 57, _, _ => exact wd_mem cw_57
  | 58, _, _ => exact wd_mem cw_58
  | 59, _, _ => exact wd_mem cw_59
  | 60, _, _ => exact wd_mem cw_60
  | 61, _, _ => exact wd_mem cw_61
  | 62, _, _ => exact wd_mem cw_62
  | 63, _, _ => exact wd_mem cw_63
  | 64, _, _ => exact wd_mem cw_64
  | 65, _, _ => exact wd_mem cw_65
  | 66, _, _ => exact wd_mem cw_66
  | 67, _, _ => exact wd_mem cw_67
  | 68, _, _ => exact wd_mem cw_68
  | 69, _, _ => exact wd_mem cw_69
  | 70, _, _ => exact wd_mem cw_70
  | 71, _, _ => exact wd_mem cw_71
  | 72, _, _ => exact wd_mem cw_72
  | 73, _, _ => exact wd_mem cw_73
  | 74, _, _ => exact wd_mem cw_74
  | 75, _, _ => exact wd_mem cw_75
  | 76, _, _ => exact wd_mem cw_76
  | 77, _, _ => exact wd_mem cw_77
  | 78, _, _ => exact wd_mem cw_78
  | 79, _, _ => exact wd_mem cw_79
  | 80, _, _ => exact wd_mem cw_80
  | 81, _, _ => exact wd_mem cw_81
  | 82, _, _ => exact wd_mem cw_82
  | 83, _, _ => exact wd_mem cw_83
  | 84, _, _ => exact wd_mem cw_84
  | 85, _, _ => exact wd_mem cw_85
  | 86, _, _ => exact wd_mem cw_86
  | 87, _, _ => exact wd_mem cw_87
  | 88, _, _ => exact wd_mem cw_88
  | 89, _, _ => exact wd_mem cw_89
  | 90, _, _ => exact wd_mem cw_90
  | 91, _, _ => exact wd_mem cw_91
  | 92, _, _ => exact wd_mem cw_92
  | 93, _, _ => exact wd_mem cw_93
  | 94, _, _ => exact wd_mem cw_94
  | 95, _, _ => exact wd_mem cw_95
  | 96, _, _ => exact wd_mem cw_96
  | 97, _, _ => exact wd_mem cw_97
  | 98, _, _ => exact wd_mem cw_98
  | 99, _, _ => exact wd_mem cw_99
  | 100, _, _ => exact wd_mem cw_100
  | 101, _, _ => exact wd_mem cw_101
  | 102, _, _ => exact wd_mem cw_102
  | 103, _, _ => exact wd_mem cw_103
  | 104, _, _ => exact wd_mem cw_104
  | 105, _, _ => exact wd_mem cw_105
  | 106, _, _ => exact wd_mem cw_106
  | 107, _, _ => exact wd_mem cw_107
  | 108, _, _ => exact wd_mem cw_108
  | 109, _, _ => exact wd_mem cw_109
  | 110, _, _ => exact wd_mem cw_110
  | 111, _, _ => exact wd_mem cw_111
  | 112, _, _ => exact wd_mem cw_112
  | 113, _, _ => exact wd_mem cw_113
  | 114, _, _ => exact wd_mem cw_114
  | 115, _, _ => exact wd_mem cw_115
  | 116, _, _ => exact wd_mem cw_116
  | 117, _, _ => exact wd_mem cw_117
  | 118, _, _ => exact wd_mem cw_118
  | 119, _, _ => exact wd_mem cw_119
  | 120, _, _ => exact wd_mem cw_120
  | 121, _, _ => exact wd_mem cw_121
  | 122, _, _ => exact wd_mem cw_122
  | 123, _, _ => exact wd_mem cw_123
  | 124, _, _ => exact wd_mem cw_124
  | 125, _, _ => exact wd_mem cw_125
  | 126, _, _ => exact wd_mem cw_126
  | 127, _, _ => exact wd_mem cw_127
  | 128, _, _ => exact wd_mem cw_128
  | 129, _, _ => exact wd_mem cw_129
  | 130, _, _ => exact wd_mem cw_130
  | 131, _, _ => exact wd_mem cw_131
  | 132, _, _ => exact wd_mem cw_132
  | 133, _, _ => exact wd_mem cw_133
  | 134, _, _ => exact wd_mem cw_134
  | 135, _, _ => exact wd_mem cw_135
  | 136, _, _ => exact wd_mem cw_136
  | 137, _, _ => exact wd_mem cw_137
  | 138, _, _ => exact wd_mem cw_138
  | 139, _, _ => exact wd_mem cw_139
  | 140, _, _ => exact wd_mem cw_140
  | 141, _, _ => exact wd_mem cw_141
  | 142, _, _ => exact wd_mem cw_142
  | 143, _, _ => exact wd_mem cw_143
  | 144, _, _ => exact wd_mem cw_144
  | 145, _, _ => exact wd_mem cw_145
  | 146, _, _ => exact wd_mem cw_146
  | 147, _, _ => exact wd_mem cw_147
  | 148, _, _ => exact wd_mem cw_148
  | 149, _, _ => exact wd_mem cw_149
  | 150, _, _ => exact wd_mem cw_150
  | 151, _, _ => exact wd_mem cw_151
  | 152, _, _ => exact wd_mem cw_152
  | 153, _, _ => exact wd_mem cw_153
  | 154, _, _ => exact wd_mem cw_154
  | 155, _, _ => exact wd_mem cw_155
  | 156, _, _ => exact wd_mem cw_156
  | 157, _, _ => exact wd_mem cw_157
  | 158, _, _ => exact wd_mem cw_158
  | 159, _, _ => exact wd_mem cw_159
  | 160, _, _ => exact wd_mem cw_160
  | 161, _, _ => exact wd_mem cw_161
  | 162, _, _ => exact wd_mem cw_162
  | 163, _, _ => exact wd_mem cw_163
  | 164, _, _ => exact wd_mem cw_164
  | 165, _, _ => exact wd_mem cw_165
  | 166, _, _ => exact wd_mem cw_166
  | 167, _, _ => exact wd_mem cw_167
  | 168, _, _ => exact wd_mem cw_168
  | 169, _, _ => exact wd_mem cw_169
  | 170, _, _ => exact wd_mem cw_170
  | 171, _, _ => exact wd_mem cw_171
  | 172, _, _ => exact wd_mem cw_172
  | 173, _, _ => exact wd_mem cw_173
  | 174, _, _ => exact wd_mem cw_174
  | 175, _, _ => exact wd_mem cw_175
  | 176, _, _ => exact wd_mem cw_176
  | 177, _, _ => exact wd_mem cw_177
  | 178, _, _ => exact wd_mem cw_178
  | 179, _, _ => exact wd_mem cw_179
  | 180, _, _ => exact wd_mem cw_180
  | 181, _, _ => exact wd_mem cw_181
  | 182, _, _ => exact wd_mem cw_182
  | 183, _, _ => exact wd_mem cw_183
  | 184, _, _ => exact wd_mem cw_184
  | 185, _, _ => exact wd_mem cw_185
  | 186, _, _ => exact wd_mem cw_186
  | 187, _, _ => exact wd_mem cw_187
  | 188, _, _ => exact wd_mem cw_188
  | 189, _, _ => exact wd_mem cw_189
  | 190, _, _ => exact wd_mem cw_190
  | 191, _, _ => exact wd_mem cw_191
  | 192, _, _ => exact wd_mem cw_192
  | 193, _, _ => exact wd_mem cw_193
  | 194, _, _ => exact wd_mem cw_194
  | 195, _, _ => exact wd_mem cw_195
  | 196, _, _ => exact wd_mem cw_196
  | 197, _, _ => exact wd_mem cw_197
  | 198, _, _ => exact wd_mem cw_198
  | 199, _, _ => exact wd_mem cw_199
  | 200, _, _ => exact wd_mem cw_200
  | 201, _, _ => exact wd_mem cw_201
  | 202, _, _ => exact wd_mem cw_202
  | 203, _, _ => exact wd_mem cw_203
  | 204, _, _ => exact wd_mem cw_204
  | 205, _, _ => exact wd_mem cw_205
  | 206, _, _ => exact wd_mem cw_206
  | 207, _, _ => exact wd_mem cw_207
  | 208, _, _ => exact wd_mem cw_208
  | 209, _, _ => exact wd_mem cw_209
  | 210, _, _ => exact wd_mem cw_210
  | 211, _, _ => exact wd_mem cw_211
  | 212, _, _ => exact wd_mem cw_212
  | 213, _, _ => exact wd_mem cw_213
  | 214, _, _ => exact wd_mem cw_214
  | 215, _, _ => exact wd_mem cw_215
  | 216, _, _ => exact wd_mem cw_216
  | 217, _, _ => exact wd_mem cw_217
  | 218, _, _ => exact wd_mem cw_218
  | 219, _, _ => exact wd_mem cw_219
  | 220, _, _ => exact wd_mem cw_220
  | 221, _, _ => exact wd_mem cw_221
  | 222, _, _ => exact wd_mem cw_222
  | 223, _, _ => exact wd_mem cw_223
  | 224, _, _ => exact wd_mem cw_224
  | 225, _, _ => exact wd_mem cw_225
  | 226, _, _ => exact wd_mem cw_226
  | 227, _, _ => exact wd_mem cw_227
  | 228, _, _ => exact wd_mem cw_228
  | 229, _, _ => exact wd_mem cw_229
  | 230, _, _ => exact wd_mem cw_230
  | 231, _, _ => exact wd_mem cw_231
  | 232, _, _ => exact wd_mem cw_232
  | 233, _, _ => exact wd_mem cw_233
  | 234, _, _ => exact wd_mem cw_234
  | 235, _, _ => exact wd_mem cw_235
  | 236, _, _ => exact wd_mem cw_236
  | 237, _, _ => exact wd_mem cw_237
  | 238, _, _ => exact wd_mem cw_238
  | 239, _, _ => exact wd_mem cw_239
  | 240, _, _ => exact wd_mem cw_240
  | 241, _, _ => exact wd_mem cw_241
  | 242, _, _ => exact wd_mem cw_242
  | 243, _, _ => exact wd_mem cw_243
  | 244, _, _ => exact wd_mem cw_244
  | 245, _, _ => exact wd_mem cw_245
  | 246, _, _ => exact wd_mem cw_246
  | 247, _, _ => exact wd_mem cw_247
  | 248, _, _ => exact wd_mem cw_248
  | 249, _, _ => exact wd_mem cw_249
  | 250, _, _ => exact wd_mem cw_250
  | 251, _, _ => exact wd_mem cw_251
  | 252, _, _ => exact wd_mem cw_252
  | 253, _, _ => exact wd_mem cw_253
  | 254, _, _ => exact wd_mem cw_254
  | 255, _, _ => exact wd_mem cw_255
  | 256, _, _ => exact wd_mem cw_256
  | 257, _, _ => exact wd_mem cw_257
  | 258, _, _ => exact wd_mem cw_258
  | 259, _, _ => exact wd_mem cw_259
  | 260, _, _ => exact wd_mem cw_260
  | 261, _, _ => exact wd_mem cw_261
  | 262, _, _ => exact wd_mem cw_262
  | 263, _, _ => exact wd_mem cw_263
  | 264, _, _ => exact wd_mem cw_264
  | 265, _, _ => exact wd_mem cw_265
  | 266, _, _ => exact wd_mem cw_266
  | 267, _, _ => exact wd_mem cw_267
  | 268, _, _ => exact wd_mem cw_268
  | 269, _, _ => exact wd_mem cw_269
  | 270, _, _ => exact wd_mem cw_270
  | 271, _, _ => exact wd_mem cw_271
  | 272, _, _ => exact wd_mem cw_272
  | 273, _, _ => exact wd_mem cw_273
  | 274, _, _ => exact wd_mem cw_274
  | 275, _, _ => exact wd_mem cw_275
  | 276, _, _ => exact wd_mem cw_276
  | 277, _, _ => exact wd_mem cw_277
  | 278, _, _ => exact wd_mem cw_278
  | 279, _, _ => exact wd_mem cw_279
  | 280, _, _ => exact wd_mem cw_280
  | 281, _, _ => exact wd_mem cw_281
  | 282, _, _ => exact wd_mem cw_282
  | 283, _, _ => exact wd_mem cw_283
  | 284, _, _ => exact wd_mem cw_284
  | 285, _, _ => exact wd_mem cw_285
  | 286, _, _ => exact wd_mem cw_286
  | 287, _, _ => exact wd_mem cw_287
  | 288, _, _ => exact wd_mem cw_288
  | 289, _, _ => exact wd_mem cw_289
  | 290, _, _ => exact wd_mem cw_290
  | 291, _, _ => exact wd_mem cw_291
  | 292, _, _ => exact wd_mem cw_292
  | 293, _, _ => exact wd_mem cw_293
  | 294, _, _ => exact wd_mem cw_294
  | 295, _, _ => exact wd_mem cw_295
  | 296, _, _ => exact wd_mem cw_296
  | 297, _, _ => exact wd_mem cw_297
  | 298, _, _ => exact wd_mem cw_298
  | 299, _, _ => exact wd_mem cw_299
  | 300, _, _ => exact wd_mem cw_300
  | 301, _, _ => exact wd_mem cw_301
  | 302, _, _ => exact wd_mem cw_302
  | 303, _, _ => exact wd_mem cw_303
  | 304, _, _ => exact wd_mem cw_304
  | 305, _, _ => exact wd_mem cw_305
  | 306, _, _ => exact wd_mem cw_306
  | 307, _, _ => exact wd_mem cw_307
  | 308, _, _ => exact wd_mem cw_308
  | 309, _, _ => exact wd_mem cw_309
  | 310, _, _ => exact wd_mem cw_310
  | 311, _, _ => exact wd_mem cw_311
  | 312, _, _ => exact wd_mem cw_312
  | 313, _, _ => exact wd_mem cw_313
  | n + 314, _, h => exact absurd h (by omega)
def mpL : List (Nat × Nat × Nat × Nat) := [(0, 0, 0, 0), (1027, 1001, 1026, 9999), (1035, 1002, 1034, 9999), (1041, 1003, 1040, 9999), (1130, 1004, 1129, 9999), (1171, 1005, 1170, 9999), (1211, 1006, 1210, 9999), (1217, 1007, 1216, 9999), (2002, 1009, 2001, 9999), (2078, 1010, 2077, 9999), (2084, 1011, 2083, 9999), (2176, 1001, 2174, 2175), (2180, 1001, 2179, 0), (2184, 1001, 2182, 2183), (2187, 1001, 2186, 9999), (2190, 1001, 2189, 9999), (2194, 1001, 2192, 2193), (2198, 1001, 2197, 1), (2202, 1001, 2200, 2201), (2206, 1001, 2205, 2), (2210, 1003, 2208, 2209), (2220, 1002, 2218, 2219), (2224, 1002, 2222, 2223), (2227, 1003, 2226, 9999), (2236, 1004, 2234, 2235), (3000, 1004, 2239, 3), (3006, 1004, 3005, 4), (3009, 1010, 3008, 9999), (3012, 1004, 3011, 9999), (3015, 1004, 3014, 9999), (3019, 1004, 3018, 5), (3023, 1003, 3021, 3022), (3030, 1002, 3028, 3029), (3034, 1002, 3033, 6), (3039, 1001, 3037, 3038), (3043, 1002, 3041, 3042), (3047, 1002, 3046, 7), (3054, 1001, 3052, 3053), (3058, 1001, 3057, 8), (3062, 1001, 3060, 3061), (3066, 1001, 3064, 3065), (3071, 1011, 3069, 3070), (3074, 1011, 3073, 9999), (3077, 1011, 3076, 9999), (3080, 1011, 3079, 9999), (3083, 1011, 3082, 9999), (3087, 1014, 3085, 3086), (3091, 1014, 3089, 3090), (3097, 1014, 3095, 3096), (3101, 1014, 3099, 3100), (3104, 1015, 3103, 9999), (3107, 1014, 3106, 9999), (3112, 1016, 3111, 9999), (3134, 1011, 3133, 9999), (3139, 1014, 3137, 3138), (3143, 1014, 3141, 3142), (3147, 1015, 3146, 9999), (3150, 1015, 3149, 9999), (3155, 1015, 3154, 9999), (3194, 1011, 3193, 9), (3199, 1010, 3197, 3198), (3203, 1011, 3201, 3202), (3207, 1011, 3205, 3206), (3213, 1011, 3211, 3212), (3217, 1010, 3216, 10), (3221, 1011, 3219, 3220), (3225, 1010, 3224, 11), (3229, 1010, 3228, 12), (3234, 1004, 3232, 3233), (3238, 1011, 3236, 3237), (4004, 1010, 4003, 13), (4008, 1010, 4007, 14), (4012, 1010, 4011, 15), (4016, 1010, 4015, 16), (4020, 1011, 4018, 4019), (4025, 1010, 4024, 17), (4029, 1010, 4028, 18), (4033, 1010, 4032, 19), (4038, 1010, 4037, 20), (4043, 1005, 4041, 4042), (4051, 1005, 4050, 21), (4055, 1005, 4054, 22), (4061, 1005, 4060, 23), (4065, 1005, 4064, 24), (4069, 1001, 4068, 25), (4073, 1004, 4071, 4072), (4078, 1005, 4076, 4077), (4083, 1003, 4081, 4082), (4088, 1001, 4086, 4087), (4092, 1001, 4090, 4091), (4096, 1003, 4094, 4095), (4100, 1001, 4099, 26), (4105, 1001, 4103, 4104), (4110, 1001, 4108, 4109), (4114, 1001, 4112, 4113), (4118, 1003, 4116, 4117), (4121, 1003, 4120, 9999), (4125, 1001, 4123, 4124), (4129, 1001, 4127, 4128), (4132, 1019, 4131, 9999), (4137, 1001, 4135, 4136), (4140, 1019, 4139, 9999), (4143, 1019, 4142, 9999), (4150, 1001, 4148, 4149), (4153, 1019, 4152, 9999), (4156, 1020, 4155, 9999), (4163, 1019, 4162, 9999), (4169, 1001, 4167, 4168), (4173, 1001, 4171, 4172), (4176, 1021, 4175, 9999), (4180, 1021, 4179, 9999), (4190, 1001, 4188, 4189), (4194, 1007, 4192, 4193), (4199, 1001, 4197, 4198), (4202, 1021, 4201, 9999), (4206, 1007, 4204, 4205), (4211, 1007, 4209, 4210), (4214, 1021, 4213, 9999), (4217, 1021, 4216, 9999), (4220, 1021, 4219, 9999), (4224, 1001, 4222, 4223), (4227, 1009, 4226, 9999), (4232, 1009, 4230, 4231), (4235, 1009, 4234, 9999), (4239, 1001, 4237, 4238), (5003, 1009, 5001, 5002), (5007, 1009, 5006, 27), (5010, 1009, 5009, 9999), (5014, 1009, 5012, 5013), (5018, 1009, 5017, 28), (5022, 1001, 5020, 5021), (5025, 1021, 5024, 9999), (5029, 1001, 5027, 5028), (5032, 1021, 5031, 9999), (5036, 1021, 5035, 9999), (5040, 1001, 5038, 5039), (5044, 1001, 5042, 5043), (5047, 1021, 5046, 9999), (5050, 1021, 5049, 9999), (5054, 1021, 5053, 9999), (5057, 1021, 5056, 9999), (5060, 1021, 5059, 9999), (5064, 1001, 5062, 5063), (5068, 1001, 5066, 5067), (5071, 1021, 5070, 9999), (5074, 1021, 5073, 9999), (5078, 1001, 5076, 5077), (5082, 1006, 5080, 5081), (5087, 1001, 5085, 5086), (5091, 1001, 5089, 5090), (5094, 1019, 5093, 9999), (5097, 1019, 5096, 9999), (5101, 1001, 5099, 5100), (5104, 1019, 5103, 9999), (5109, 1001, 5107, 5108), (5112, 1021, 5111, 9999), (5116, 1001, 5114, 5115), (5119, 1021, 5118, 9999), (5123, 1001, 5121, 5122), (5127, 1001, 5125, 5126), (5131, 1007, 5129, 5130), (5135, 1007, 5133, 5134), (5139, 1001, 5137, 5138), (5142, 1019, 5141, 9999), (5145, 1019, 5144, 9999), (5148, 1019, 5147, 9999), (5151, 1022, 5150, 9999), (5157, 1019, 5156, 9999), (5160, 1019, 5159, 9999), (5163, 1019, 5162, 9999), (5168, 1001, 5166, 5167), (5172, 1001, 5170, 5171), (5176, 1002, 5174, 5175), (5183, 1006, 5181, 5182), (5188, 1007, 5186, 5187), (5194, 1009, 5192, 5193), (5200, 1001, 5198, 5199), (5206, 1012, 5205, 9999), (6179, 1012, 6177, 6178), (6183, 1012, 6181, 6182), (6187, 1012, 6185, 6186), (6191, 1012, 6190, 29), (6195, 1012, 6194, 30), (6199, 1012, 6197, 6198), (6203, 1012, 6202, 31), (6207, 1012, 6205, 6206), (6211, 1012, 6210, 32), (6215, 1012, 6213, 6214), (6219, 1012, 6217, 6218), (6223, 1012, 6222, 33), (6227, 1012, 6226, 34), (6231, 1012, 6230, 35), (6235, 1012, 6234, 36), (6239, 1012, 6238, 37), (7003, 1012, 7002, 38), (7007, 1012, 7006, 39), (7011, 1012, 7010, 40), (7015, 1012, 7014, 41), (7019, 1012, 7018, 42), (7023, 1012, 7022, 43), (7027, 1012, 7026, 44), (7031, 1012, 7030, 45), (7035, 1012, 7034, 46), (7039, 1012, 7038, 47), (7043, 1012, 7042, 48), (7047, 1012, 7046, 49), (7051, 1012, 7050, 50), (7055, 1012, 7054, 51), (7059, 1012, 7058, 52), (7063, 1012, 7062, 53), (7067, 1012, 7066, 54), (7071, 1012, 7070, 55), (7075, 1012, 7074, 56), (7079, 1012, 7078, 57), (7083, 1012, 7082, 58), (7087, 1012, 7086, 59), (7091, 1012, 7090, 60), (7095, 1012, 7094, 61), (7099, 1012, 7098, 62), (7103, 1012, 7102, 63), (7107, 1012, 7106, 64), (7111, 1012, 7110, 65), (7115, 1012, 7114, 66), (7119, 1012, 7117, 7118), (7123, 1012, 7121, 7122), (7127, 1012, 7126, 67), (7131, 1012, 7130, 68), (7135, 1012, 7134, 69), (7139, 1012, 7138, 70), (7143, 1012, 7142, 71), (7147, 1012, 7146, 72), (7151, 1012, 7150, 73), (7155, 1012, 7154, 74), (7159, 1012, 7158, 75), (7163, 1012, 7162, 76), (7167, 1012, 7166, 77), (7171, 1012, 7170, 78), (7175, 1012, 7174, 79), (7179, 1012, 7178, 80), (7183, 1012, 7182, 81), (7187, 1012, 7186, 82), (7191, 1012, 7190, 83), (7197, 1012, 7196, 84), (7201, 1012, 7200, 85), (7205, 1012, 7204, 86), (7209, 1012, 7207, 7208), (7213, 1012, 7212, 87), (7217, 1012, 7216, 88), (7221, 1012, 7220, 89), (7225, 1012, 7224, 90), (7229, 1012, 7227, 7228), (7233, 1012, 7232, 91), (7237, 1012, 7235, 7236), (8001, 1012, 7239, 8000), (8005, 1012, 8003, 8004), (8009, 1012, 8008, 92), (8013, 1012, 8012, 93), (8017, 1012, 8016, 94), (8021, 1012, 8020, 95), (8025, 1012, 8023, 8024), (8029, 1012, 8027, 8028), (8033, 1012, 8031, 8032), (8037, 1012, 8036, 96), (8041, 1012, 8040, 97), (8045, 1012, 8043, 8044), (8049, 1012, 8048, 98), (8053, 1012, 8052, 99), (8057, 1012, 8056, 100), (8062, 1012, 8060, 8061), (8066, 1012, 8064, 8065), (8070, 1012, 8069, 101), (8074, 1012, 8073, 102), (8078, 1012, 8076, 8077), (8082, 1012, 8080, 8081), (8086, 1012, 8085, 103), (8090, 1012, 8088, 8089), (8094, 1012, 8092, 8093), (8098, 1012, 8097, 104), (8102, 1012, 8101, 105), (8106, 1012, 8105, 106), (8110, 1012, 8109, 107), (8114, 1012, 8113, 108), (8118, 1012, 8116, 8117), (8122, 1012, 8121, 109), (8126, 1012, 8125, 110), (8130, 1012, 8128, 8129), (8134, 1012, 8132, 8133), (8138, 1012, 8136, 8137), (8142, 1012, 8141, 111), (8146, 1012, 8145, 112), (8150, 1012, 8149, 113), (8154, 1012, 8152, 8153), (8158, 1012, 8156, 8157), (8162, 1012, 8161, 114), (8166, 1012, 8164, 8165), (8170, 1012, 8168, 8169), (8174, 1012, 8172, 8173), (8178, 1012, 8177, 115), (8182, 1012, 8180, 8181), (8186, 1012, 8184, 8185), (8190, 1012, 8189, 116), (8194, 1012, 8192, 8193), (8198, 1012, 8196, 8197), (8202, 1012, 8200, 8201), (8206, 1012, 8204, 8205), (8211, 1012, 8210, 117), (8215, 1012, 8214, 118), (8219, 1012, 8218, 119), (8223, 1012, 8222, 120), (8227, 1012, 8225, 8226), (8231, 1012, 8230, 121), (8235, 1012, 8234, 122), (8239, 1012, 8238, 123), (9003, 1012, 9001, 9002)]
def mp (j : Nat) : Nat × Nat × Nat × Nat := mpL.getD j (0, 0, 0, 0)
/-- what the words say of method j -/
def mOk (j : Nat) : Prop := wd (mp j).2.1 = some (Cond.initialized (yn j).cls) ∧ (if mS j = true then wd (mp j).2.2.1 = some (Cond.static (yn j)) else wd (mp j).2.2.1 = some (Cond.instanceMethod (yn j)) ∧ ((yn j).name = "<init>" ∨ wd (mp j).2.2.2 = some (Cond.selects (yn j).cls (yn j) (yn j)))) ∧ ((yn j).cls ≠ "java/lang/invoke/MethodHandle" ∧ (yn j).cls ≠ "java/lang/invoke/VarHandle") ∧ plainName (yn j).cls = true ∧ on (ow j) = (yn j).cls ∧ ml j ≤ 20
set_option maxRecDepth 100000 in
theorem mOk_1 : ∀ i, i < 40 → mOk (1 + i) := by unfold mOk; decide +kernel
set_option maxRecDepth 100000 in
theorem mOk_41 : ∀ i, i < 40 → mOk (41 + i) := by unfold mOk; decide +kernel
set_option maxRecDepth 100000 in
theorem mOk_81 : ∀ i, i < 40 → mOk (81 + i) := by unfold mOk; decide +kernel
set_option maxRecDepth 100000 in
theorem mOk_121 : ∀ i, i < 40 → mOk (121 + i) := by unfold mOk; decide +kernel
set_option maxRecDepth 100000 in
theorem mOk_161 : ∀ i, i < 40 → mOk (161 + i) := by unfold mOk; decide +kernel
set_option maxRecDepth 100000 in
theorem mOk_201 : ∀ i, i < 40 → mOk (201 + i) := by unfold mOk; decide +kernel
set_option maxRecDepth 100000 in
theorem mOk_241 : ∀ i, i < 40 → mOk (241 + i) := by unfold mOk; decide +kernel
set_option maxRecDepth 100000 in
theorem mOk_281 : ∀ i, i < 33 → mOk (281 + i) := by unfold mOk; decide +kernel
theorem mOk_all (j : Nat) (h0 : 0 < j) (h : j < 314) : mOk j := by
  by_cases h1 : j < 41
  · have := mOk_1 (j - 1) (by omega)
    rwa [show 1 + (j - 1) = j by omega] at this
  by_cases h41 : j < 81
  · have := mOk_41 (j - 41) (by omega)
    rwa [show 41 + (j - 41) = j by omega] at this
  by_cases h81 : j < 121
  · have := mOk_81 (j - 81) (by omega)
    rwa [show 81 + (j - 81) = j by omega] at this
  by_cases h121 : j < 161
  · have := mOk_121 (j - 121) (by omega)
    rwa [show 121 + (j - 121) = j by omega] at this
  by_cases h161 : j < 201
  · have := mOk_161 (j - 161) (by omega)
    rwa [show 161 + (j - 161) = j by omega] at this
  by_cases h201 : j < 241
  · have := mOk_201 (j - 201) (by omega)
    rwa [show 201 + (j - 201) = j by omega] at this
  by_cases h241 : j < 281
  · have := mOk_241 (j - 241) (by omega)
    rwa [show 241 + (j - 241) = j by omega] at this
  by_cases h281 : j < 314
  · have := mOk_281 (j - 281) (by omega)
    rwa [show 281 + (j - 281) = j by omega] at this
  omega
def tMp : List (Nat × Nat × Nat × Nat × Nat × Nat) := [(13, 9, 4, 1, 1002, 1025), (13, 12, 4, 177, 11002, 5204), (13, 13, 2, 11, 1005, 2173), (13, 17, 2, 179, 11005, 6180), (13, 18, 2, 13, 1009, 2181), (13, 22, 2, 180, 11009, 6184), (13, 23, 2, 16, 1009, 2191), (13, 27, 2, 183, 11009, 6196), (13, 28, 2, 18, 1007, 2199), (13, 32, 2, 224, 11007, 7120), (13, 33, 2, 34, 1005, 3036), (13, 36, 2, 245, 11005, 7206), (13, 37, 2, 37, 1013, 3051), (13, 42, 2, 39, 1005, 3059), (13, 46, 2, 187, 11005, 6212), (13, 47, 2, 40, 1005, 3063), (13, 50, 2, 188, 11005, 6216), (13, 51, 2, 88, 1005, 4085), (13, 54, 2, 223, 11005, 7116), (13, 55, 2, 89, 1009, 4089), (13, 58, 2, 250, 11009, 7226), (13, 59, 2, 92, 1007, 4102), (13, 63, 2, 252, 11007, 7234), (13, 64, 2, 93, 1007, 4107), (13, 67, 2, 253, 11007, 7238), (13, 68, 2, 94, 1007, 4111), (13, 71, 2, 254, 11007, 8002), (13, 72, 2, 97, 1009, 4122), (13, 75, 2, 259, 11009, 8022), (13, 76, 2, 98, 1005, 4126), (13, 79, 2, 260, 11005, 8026), (13, 80, 2, 100, 1005, 4134), (13, 83, 2, 261, 11005, 8030), (13, 84, 2, 103, 1005, 4147), (13, 87, 2, 264, 11005, 8042), (13, 88, 2, 107, 1007, 4166), (13, 91, 2, 268, 11007, 8059), (13, 92, 2, 108, 1007, 4170), (13, 95, 2, 269, 11007, 8063), (13, 96, 2, 111, 1005, 4187), (13, 99, 2, 272, 11005, 8075), (13, 100, 2, 113, 1007, 4196), (13, 103, 2, 273, 11007, 8079), (13, 104, 2, 120, 1009, 4221), (13, 107, 2, 275, 11009, 8087), (13, 108, 2, 124, 1005, 4236), (13, 111, 2, 276, 11005, 8091), (13, 112, 2, 130, 1009, 5019), (13, 115, 2, 282, 11009, 8115), (13, 116, 2, 132, 1011, 5026), (13, 121, 2, 135, 1005, 5037), (13, 124, 2, 286, 11005, 8131), (13, 125, 2, 136, 1005, 5041), (13, 128, 2, 287, 11005, 8135), (13, 129, 2, 142, 1005, 5061), (13, 132, 2, 291, 11005, 8151), (13, 133, 2, 143, 1005, 5065), (13, 136, 2, 292, 11005, 8155), (13, 137, 2, 146, 1009, 5075), (13, 140, 2, 294, 11009, 8163), (13, 141, 2, 148, 1005, 5084), (13, 144, 2, 295, 11005, 8167), (13, 145, 2, 149, 1009, 5088), (13, 148, 2, 298, 11009, 8179), (13, 149, 2, 152, 1011, 5098), (13, 153, 2, 154, 1007, 5106), (13, 156, 2, 299, 11007, 8183), (13, 157, 2, 156, 1007, 5113), (13, 160, 2, 301, 11007, 8191), (13, 161, 2, 158, 1005, 5120), (13, 164, 2, 302, 11005, 8195), (13, 165, 2, 159, 1005, 5124), (13, 168, 2, 303, 11005, 8199), (13, 169, 2, 162, 1005, 5136), (13, 172, 2, 304, 11005, 8203), (13, 173, 2, 170, 1003, 5165), (13, 177, 2, 178, 11003, 6176), (13, 178, 2, 171, 1005, 5169), (13, 182, 2, 309, 11005, 8224), (13, 183, 2, 176, 1005, 5197), (13, 186, 2, 313, 11005, 9000), (13, 41, 2, 185, 11013, 6204), (13, 120, 2, 285, 11011, 8127), (13, 152, 2, 296, 11011, 8171), (0, 3, 0, 0, 0, 1028), (0, 11, 7, 2, 2002, 0), (0, 21, 4, 3, 7004, 2072), (0, 38, 7, 9, 9002, 0), (0, 45, 7, 5, 4002, 0), (1, 3, 0, 0, 0, 1036), (1, 11, 4, 3, 7004, 1039), (1, 22, 7, 4, 3002, 0), (1, 29, 7, 5, 4002, 0), (1, 39, 7, 6, 5002, 0), (6, 3, 0, 0, 0, 1042), (2, 3, 0, 0, 0, 1131), (3, 5, 0, 0, 0, 1172), (4, 3, 0, 0, 0, 1212), (4, 17, 4, 7, 6008, 1215), (4, 35, 4, 8, 8002, 2000), (5, 3, 0, 0, 0, 1218), (5, 9, 10, 0, 0, 1219), (7, 3, 0, 0, 0, 2003), (8, 5, 0, 0, 0, 2079), (8, 11, 7, 10, 10002, 0), (8, 20, 7, 4, 3002, 0), (9, 5, 0, 0, 0, 2085), (0, 60, 2, 12, 1002, 2177), (0, 63, 3, 14, 7, 2185), (0, 67, 3, 15, 5, 2188), (0, 90, 2, 17, 1005, 2195), (0, 97, 2, 19, 1002, 2203), (0, 100, 2, 21, 2007, 2217), (0, 104, 2, 32, 2007, 3035), (0, 179, 2, 20, 7004, 2207), (0, 288, 11, 0, 0, 2214), (6, 40, 1, 0, 0, 2211), (1, 134, 2, 22, 2007, 2221), (1, 137, 3, 23, 5, 2225), (1, 142, 2, 24, 3011, 2233), (1, 146, 2, 31, 7005, 3020), (1, 150, 2, 32, 2007, 3027), (6, 71, 6, 15, 5, 0), (2, 46, 2, 25, 3008, 2237), (2, 50, 2, 26, 3007, 3003), (2, 54, 3, 29, 5, 3013), (2, 57, 2, 30, 3005, 3016), (2, 84, 11, 0, 0, 3001), (2, 89, 10, 0, 0, 3002), (2, 95, 3, 27, 3, 3007), (2, 103, 3, 28, 7, 3010), (6, 77, 10, 0, 0, 3026), (1, 109, 2, 33, 2010, 3031), (0, 110, 2, 35, 2005, 3040), (1, 93, 2, 36, 2007, 3044), (1, 116, 2, 21, 2007, 3048), (1, 122, 11, 0, 0, 3049), (1, 128, 10, 0, 0, 3050), (0, 117, 2, 38, 1004, 3055), (0, 130, 2, 41, 10008, 3068), (0, 136, 2, 60, 9002, 3196), (0, 141, 2, 79, 4008, 4040), (0, 150, 2, 84, 1005, 4066), (9, 31, 3, 42, 7, 3072), (9, 35, 3, 44, 9, 3078), (9, 39, 2, 59, 10006, 3191), (9, 43, 10, 0, 0, 3195), (9, 49, 3, 43, 3, 3075), (9, 53, 3, 45, 9, 3081), (9, 59, 2, 54, 51005, 3136), (9, 65, 2, 46, 51003, 3084), (9, 69, 2, 48, 51005, 3094), (9, 73, 3, 53, 13, 3132), (14, 335, 2, 47, 51003, 3088), (14, 492, 2, 49, 51003, 3098), (14, 495, 3, 50, 5, 3102), (15, 9, 3, 51, 4, 3105), (14, 1059, 3, 52, 7, 3110), (14, 633, 2, 55, 51007, 3140), (14, 505, 2, 46, 51003, 3144), (14, 637, 3, 56, 9, 3145), (15, 88, 3, 57, 3, 3148), (15, 92, 10, 0, 0, 3151), (15, 38, 11, 0, 0, 3152), (15, 95, 3, 58, 9, 3153), (8, 36, 2, 61, 10003, 3200), (8, 40, 2, 62, 10003, 3208), (8, 44, 6, 14, 7, 0), (8, 48, 2, 63, 10004, 3210), (8, 52, 2, 64, 9006, 3214), (9, 77, 2, 62, 10003, 3204), (8, 56, 2, 65, 10005, 3218), (8, 66, 2, 66, 9002, 3222), (8, 72, 2, 70, 9002, 4001), (8, 78, 2, 74, 10004, 4017), (8, 81, 2, 67, 9002, 3226), (8, 84, 2, 68, 3004, 3231), (8, 87, 2, 69, 10007, 3235), (8, 91, 3, 27, 3, 3230), (9, 84, 2, 63, 10004, 3239), (9, 88, 6, 14, 7, 0), (8, 103, 2, 71, 9002, 4005), (8, 106, 2, 73, 9003, 4013), (8, 109, 2, 75, 9002, 4022), (8, 112, 2, 78, 9003, 4035), (8, 115, 2, 77, 9006, 4030), (8, 118, 2, 72, 9004, 4009), (9, 80, 2, 65, 10005, 4021), (8, 121, 2, 76, 9002, 4026), (8, 124, 10, 0, 0, 4034), (3, 42, 2, 61, 10003, 4044), (3, 46, 2, 62, 10003, 4045), (3, 50, 2, 63, 10004, 4046), (3, 54, 2, 65, 10005, 4047), (3, 58, 2, 80, 4010, 4048), (3, 62, 2, 74, 10004, 4057), (3, 65, 2, 81, 4008, 4052), (3, 69, 2, 82, 4006, 4058), (3, 73, 2, 83, 4006, 4062), (3, 76, 2, 69, 10007, 4056), (0, 360, 2, 85, 3004, 4070), (0, 363, 2, 86, 4004, 4075), (0, 366, 2, 87, 7004, 4080), (2, 37, 1, 0, 0, 4074), (3, 32, 1, 0, 0, 4079), (0, 163, 2, 90, 7005, 4093), (0, 166, 2, 91, 1007, 4097), (0, 369, 2, 24, 3011, 4101), (0, 170, 2, 22, 2007, 4106), (0, 183, 2, 95, 7005, 4115), (0, 190, 3, 96, 3, 4119), (0, 193, 3, 99, 5, 4130), (12, 9, 10, 0, 0, 4133), (0, 199, 3, 101, 5, 4138), (12, 21, 3, 102, 5, 4141), (12, 31, 12, 0, 0, 4144), (0, 202, 3, 104, 5, 4151), (12, 35, 8, 105, 1, 4154), (12, 43, 8, 106, 2, 4161), (0, 214, 3, 109, 7, 4174), (11, 21, 8, 110, 2, 4178), (11, 9, 13, 0, 0, 4181), (11, 15, 14, 0, 0, 4184), (0, 224, 2, 112, 6005, 4191), (5, 31, 6, 14, 7, 0), (0, 229, 3, 114, 7, 4200), (11, 32, 2, 115, 6007, 4203), (11, 36, 10, 0, 0, 4207), (11, 38, 2, 116, 6003, 4208), (11, 42, 3, 117, 5, 4212), (11, 46, 3, 118, 7, 4215), (11, 54, 3, 119, 9, 4218), (0, 233, 3, 121, 3, 4225), (0, 242, 2, 122, 8008, 4229), (7, 16, 6, 14, 7, 0), (7, 20, 3, 123, 5, 4233), (0, 245, 2, 125, 8003, 5000), (0, 249, 2, 128, 8003, 5011), (7, 30, 2, 126, 8007, 5004), (7, 33, 3, 127, 5, 5008), (7, 37, 2, 129, 8005, 5015), (0, 252, 3, 131, 7, 5023), (0, 256, 3, 133, 3, 5030), (0, 259, 3, 134, 9, 5034), (11, 58, 6, 14, 7, 0), (0, 266, 3, 137, 3, 5045), (0, 270, 3, 139, 3, 5052), (0, 273, 3, 140, 7, 5055), (0, 279, 3, 141, 3, 5058), (11, 65, 3, 138, 5, 5048), (11, 62, 11, 0, 0, 5051), (0, 285, 3, 144, 3, 5069), (11, 68, 3, 145, 11, 5072), (0, 293, 2, 147, 5009, 5079), (4, 60, 6, 14, 7, 0), (0, 299, 3, 150, 7, 5092), (12, 51, 3, 151, 7, 5095), (0, 302, 3, 153, 9, 5102), (12, 55, 11, 0, 0, 5105), (0, 305, 3, 155, 5, 5110), (0, 308, 3, 157, 5, 5117), (0, 314, 2, 160, 6003, 5128), (0, 317, 2, 161, 6005, 5132), (0, 320, 3, 163, 3, 5140), (0, 323, 3, 164, 3, 5143), (12, 58, 3, 165, 3, 5146), (12, 61, 3, 166, 3, 5149), (12, 65, 3, 167, 4, 5155), (12, 69, 3, 168, 5, 5158), (12, 73, 3, 169, 7, 5161), (0, 332, 2, 172, 2004, 5173), (1, 48, 2, 20, 7004, 5177), (1, 52, 2, 85, 3004, 5178), (1, 55, 2, 86, 4004, 5179), (1, 58, 2, 173, 5004, 5180), (1, 65, 1, 0, 0, 5196), (4, 40, 1, 0, 0, 5184), (4, 46, 2, 174, 6004, 5185), (4, 50, 2, 175, 8004, 5191), (5, 35, 11, 0, 0, 5189), (5, 38, 1, 0, 0, 5190), (7, 24, 1, 0, 0, 5195), (10, 1, 0, 0, 0, 5207), (10, 156, 2, 181, 11009, 6188), (10, 160, 2, 182, 11007, 6192), (10, 164, 2, 184, 11005, 6200), (10, 171, 2, 186, 11004, 6208), (10, 315, 2, 189, 11005, 6220), (10, 318, 2, 220, 11004, 7104), (10, 321, 2, 221, 11006, 7108), (10, 222, 2, 190, 11002, 6224), (10, 288, 2, 196, 11003, 7008), (10, 291, 2, 205, 11003, 7044), (10, 294, 2, 207, 11003, 7052), (10, 297, 2, 209, 11003, 7060), (10, 178, 2, 191, 11005, 6228), (10, 190, 2, 192, 11005, 6232), (10, 193, 2, 193, 11007, 6236), (10, 197, 2, 194, 11005, 7000), (10, 200, 2, 195, 11005, 7004), (10, 244, 2, 197, 11005, 7012), (10, 215, 2, 198, 11005, 7016), (10, 279, 2, 199, 11005, 7020), (10, 269, 2, 200, 11009, 7024), (10, 273, 2, 202, 11003, 7032), (10, 266, 2, 201, 11007, 7028), (10, 276, 2, 203, 11005, 7036), (10, 229, 2, 204, 11005, 7040), (10, 282, 2, 206, 11005, 7048), (10, 285, 2, 208, 11005, 7056), (10, 256, 2, 210, 11003, 7064), (10, 235, 2, 211, 11003, 7068), (10, 260, 2, 216, 11003, 7088), (10, 232, 2, 212, 11003, 7072), (10, 218, 2, 215, 11006, 7084), (10, 225, 2, 213, 11003, 7076), (10, 212, 2, 214, 11005, 7080), (10, 247, 2, 217, 11004, 7092), (10, 250, 2, 218, 11003, 7096), (10, 253, 2, 219, 11004, 7100), (10, 306, 2, 222, 11004, 7112), (10, 377, 2, 225, 11007, 7124), (10, 380, 2, 226, 11002, 7128), (10, 383, 2, 227, 11005, 7132), (10, 374, 2, 242, 11005, 7194), (10, 365, 2, 228, 11005, 7136), (10, 343, 2, 229, 11005, 7140), (10, 346, 2, 230, 11005, 7144), (10, 352, 2, 238, 11005, 7176), (10, 368, 2, 239, 11007, 7180), (10, 371, 2, 240, 11005, 7184), (10, 349, 2, 231, 11007, 7148), (10, 336, 2, 232, 11006, 7152), (10, 339, 2, 234, 11011, 7160), (10, 330, 2, 233, 11009, 7156), (10, 333, 2, 235, 11005, 7164), (10, 327, 2, 236, 11009, 7168), (10, 324, 2, 237, 11009, 7172), (10, 362, 2, 241, 11005, 7188), (10, 359, 2, 244, 11007, 7202), (10, 355, 2, 243, 11008, 7198), (10, 395, 2, 246, 11003, 7210), (10, 392, 2, 247, 11005, 7214), (10, 386, 2, 248, 11007, 7218), (10, 389, 2, 249, 11007, 7222), (10, 398, 2, 251, 11005, 7230), (10, 401, 2, 255, 11002, 8006), (10, 404, 2, 256, 11007, 8010), (10, 407, 2, 257, 11003, 8014), (10, 410, 2, 258, 11002, 8018), (10, 413, 2, 262, 11005, 8034), (10, 140, 2, 263, 11005, 8038), (10, 420, 2, 265, 11003, 8046), (10, 423, 2, 267, 11002, 8054), (10, 417, 2, 266, 11007, 8050), (10, 426, 2, 270, 11007, 8067), (10, 429, 2, 271, 11007, 8071), (10, 435, 2, 274, 11007, 8083), (10, 447, 2, 277, 11003, 8095), (10, 450, 2, 281, 11002, 8111), (10, 444, 2, 278, 11003, 8099), (10, 441, 2, 279, 11007, 8103), (10, 438, 2, 280, 11007, 8107), (10, 456, 2, 283, 11004, 8119), (10, 453, 2, 284, 11009, 8123), (10, 465, 2, 288, 11003, 8139), (10, 468, 2, 290, 11005, 8147), (10, 462, 2, 289, 11007, 8143), (10, 474, 2, 293, 11003, 8159), (10, 480, 2, 297, 11011, 8175), (10, 483, 2, 300, 11007, 8187), (10, 493, 2, 305, 11004, 8208), (10, 496, 2, 306, 11003, 8212), (10, 499, 2, 307, 11003, 8216), (10, 489, 2, 308, 11007, 8220), (10, 508, 2, 310, 11005, 8228), (10, 514, 2, 311, 11002, 8232), (10, 517, 2, 312, 11002, 8236)]
def nwQ : List (String × Nat × MethodName × String) := [("GriefWood", 11, ⟨"GriefWood$Whole", "<init>", "()V"⟩, "GriefWood"), ("GriefWood", 38, ⟨"GriefWood$LawReader", "<init>", "()V"⟩, "GriefWood"), ("GriefWood", 45, ⟨"GriefWood$Lines", "<init>", "()V"⟩, "GriefWood"), ("GriefWood$Whole", 22, ⟨"GriefWood$Law", "<init>", "()V"⟩, "GriefWood"), ("GriefWood$Whole", 29, ⟨"GriefWood$Lines", "<init>", "()V"⟩, "GriefWood"), ("GriefWood$Whole", 39, ⟨"GriefWood$Told", "<init>", "()V"⟩, "GriefWood"), ("GriefWood$LawReader", 11, ⟨"GriefWood$Tokens", "<init>", "()V"⟩, "GriefWood"), ("GriefWood$LawReader", 20, ⟨"GriefWood$Law", "<init>", "()V"⟩, "GriefWood"), ("GriefWood$Scene", 71, ⟨"GriefWood", "isCell", "(II)Z"⟩, "GriefWood"), ("GriefWood$LawReader", 44, ⟨"GriefWood", "within", "(III)Z"⟩, "GriefWood"), ("GriefWood$Tokens", 88, ⟨"GriefWood", "within", "(III)Z"⟩, "GriefWood"), ("GriefWood$Row", 31, ⟨"GriefWood", "within", "(III)Z"⟩, "GriefWood"), ("GriefWood$Wishes", 16, ⟨"GriefWood", "within", "(III)Z"⟩, "GriefWood"), ("GriefWood$Thought", 58, ⟨"GriefWood", "within", "(III)Z"⟩, "GriefWood"), ("GriefWood$Told", 60, ⟨"GriefWood", "within", "(III)Z"⟩, "GriefWood")]
def nwP : List Nat := [1033, 2076, 2132, 1128, 1169, 1209, 2082, 2109, 2232, 3209, 4000, 4195, 4228, 5033, 5083]
set_option maxRecDepth 100000 in
theorem nwQ_ok : ∀ i, i < 15 → (nwQ[i]?.map fun q => Cond.methodLinkNest q.1 q.2.1 q.2.2.1 q.2.2.2) = wd (nwP.getD i 0) := by decide +kernel
def npar (j : Nat) : Option Nat := (parseMethodDescriptor (yn j).desc).map (fun d => d.parameters.length)
/-- what the words say of a call: kind 0 Object's constructor, 1 arraycopy, 2 virtual, 3 static, 4 a constructor, 6 static of a nest mate, 7 a nest mate's constructor, 8 static with longs -/
def cOk (e : Nat × Nat × Nat × Nat × Nat × Nat) : Prop := match e with
  | (o, i, kind, j, c, p) => if kind = 0 then wd p = some (Cond.methodLink (on o) i Lib.objectInit)
    else if kind = 1 then wd p = some (Cond.methodLink (on o) i arraycopyName)
    else if kind = 10 then wd p = some (Cond.methodLink (on o) i Lib.Math.max.name)
    else if kind = 11 then wd p = some (Cond.methodLink (on o) i Lib.Math.min.name)
    else if kind = 12 then wd p = some (Cond.methodLink (on o) i Lib.Math.abs.name)
    else if kind = 13 then wd p = some (Cond.methodLink (on o) i Lib.MathLoose.abs_long.x)
    else if kind = 14 then wd p = some (Cond.methodLink (on o) i Lib.MathLoose.max_long.x)
    else 0 < j ∧ j < 314 ∧ (if kind = 6 ∨ kind = 7 then ∃ q ∈ nwQ, q.1 = on o ∧ q.2.1 = i ∧ q.2.2.1 = yn j else wd p = some (Cond.methodLink (on o) i (yn j))) ∧
      (if kind = 8 then mS j = true ∧ npar j = some (c % 4) ∧ c < 4 ∧ 2 * c ≤ ml j ∧ rt j ≠ none
       else (c % 1000 / 2 ≤ ml j ∧ (c % 2 = 1 ↔ rt j ≠ none) ∧ (if kind = 3 ∨ kind = 6 then mS j = true ∧ c < 1000 ∧ npar j = some (c % 1000 / 2) else mS j = false ∧ 1 ≤ c % 1000 / 2 ∧ npar j = some (c % 1000 / 2 - 1) ∧ 1 ≤ c / 1000 ∧ (c / 1000 - 1 < 11 ∧ (yn j).cls = on (c / 1000 - 1) ∨ c / 1000 - 1 = 50 ∧ (yn j).cls = "java/lang/String") ∧ (if kind = 2 then (yn j).name ≠ "<init>" else (yn j).name = "<init>" ∧ rt j = none ∧ (kind = 4 ∨ kind = 7)))))
set_option maxRecDepth 100000 in
theorem cOk_0 : ∀ e ∈ (tMp.drop 0).take 60, cOk e := by unfold cOk; decide +kernel
set_option maxRecDepth 100000 in
theorem cOk_60 : ∀ e ∈ (tMp.drop 60).take 60, cOk e := by unfold cOk; decide +kernel
set_option maxRecDepth 100000 in
theorem cOk_120 : ∀ e ∈ (tMp.drop 120).take 60, cOk e := by unfold cOk; decide +kernel
set_option maxRecDepth 100000 in
theorem cOk_180 : ∀ e ∈ (tMp.drop 180).take 60, cOk e := by unfold cOk; decide +kernel
set_option maxRecDepth 100000 in
theorem cOk_240 : ∀ e ∈ (tMp.drop 240).take 60, cOk e := by unfold cOk; decide +kernel
set_option maxRecDepth 100000 in
theorem cOk_300 : ∀ e ∈ (tMp.drop 300).take 60, cOk e := by unfold cOk; decide +kernel
set_option maxRecDepth 100000 in
theorem cOk_360 : ∀ e ∈ (tMp.drop 360).take 18, cOk e := by unfold cOk; decide +kernel
set_option maxRecDepth 100000 in
theorem tMp_all : ∀ e ∈ tM, ∃ q ∈ tMp, (q.1, q.2.1, (q.2.2.1, q.2.2.2.1, q.2.2.2.2.1)) = e := by decide +kernel
set_option maxRecDepth 100000 in
theorem cOk_all : ∀ e ∈ tMp, cOk e := by
  intro e he
  obtain ⟨i, hi⟩ := List.getElem?_of_mem he
  have hl : i < 378 := (List.getElem?_eq_some_iff.mp hi).1
  by_cases h0 : i < 60
  · exact cOk_0 e (mem_at (i := i - 0) (by rw [List.getElem?_take_of_lt (by omega), List.getElem?_drop, show 0 + (i - 0) = i by omega]; exact hi))
  by_cases h60 : i < 120
  · exact cOk_60 e (mem_at (i := i - 60) (by rw [List.getElem?_take_of_lt (by omega), List.getElem?_drop, show 60 + (i - 60) = i by omega]; exact hi))
  by_cases h120 : i < 180
  · exact cOk_120 e (mem_at (i := i - 120) (by rw [List.getElem?_take_of_lt (by omega), List.getElem?_drop, show 120 + (i - 120) = i by omega]; exact hi))
  by_cases h180 : i < 240
  · exact cOk_180 e (mem_at (i := i - 180) (by rw [List.getElem?_take_of_lt (by omega), List.getElem?_drop, show 180 + (i - 180) = i by omega]; exact hi))
  by_cases h240 : i < 300
  · exact cOk_240 e (mem_at (i := i - 240) (by rw [List.getElem?_take_of_lt (by omega), List.getElem?_drop, show 240 + (i - 240) = i by omega]; exact hi))
  by_cases h300 : i < 360
  · exact cOk_300 e (mem_at (i := i - 300) (by rw [List.getElem?_take_of_lt (by omega), List.getElem?_drop, show 300 + (i - 300) = i by omega]; exact hi))
  by_cases h360 : i < 378
  · exact cOk_360 e (mem_at (i := i - 360) (by rw [List.getElem?_take_of_lt (by omega), List.getElem?_drop, show 360 + (i - 360) = i by omega]; exact hi))
  omega
