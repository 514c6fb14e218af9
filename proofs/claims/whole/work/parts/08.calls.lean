/-! ===== the methods: their words ===== -/
set_option maxRecDepth 100000 in
theorem cw_1 : wd 1027 = some (Cond.code (yn 1) (bc 1) (ml 1) (rt 1)) := rfl
set_option maxRecDepth 100000 in
theorem cw_2 : wd 1035 = some (Cond.code (yn 2) (bc 2) (ml 2) (rt 2)) := rfl
set_option maxRecDepth 100000 in
theorem cw_3 : wd 1041 = some (Cond.code (yn 3) (bc 3) (ml 3) (rt 3)) := rfl
set_option maxRecDepth 100000 in
theorem cw_4 : wd 1130 = some (Cond.code (yn 4) (bc 4) (ml 4) (rt 4)) := rfl
set_option maxRecDepth 100000 in
theorem cw_5 : wd 1171 = some (Cond.code (yn 5) (bc 5) (ml 5) (rt 5)) := rfl
set_option maxRecDepth 100000 in
theorem cw_6 : wd 1211 = some (Cond.code (yn 6) (bc 6) (ml 6) (rt 6)) := rfl
set_option maxRecDepth 100000 in
theorem cw_7 : wd 1217 = some (Cond.code (yn 7) (bc 7) (ml 7) (rt 7)) := rfl
set_option maxRecDepth 100000 in
theorem cw_8 : wd 2002 = some (Cond.code (yn 8) (bc 8) (ml 8) (rt 8)) := rfl
set_option maxRecDepth 100000 in
theorem cw_9 : wd 2078 = some (Cond.code (yn 9) (bc 9) (ml 9) (rt 9)) := rfl
set_option maxRecDepth 100000 in
theorem cw_10 : wd 2084 = some (Cond.code (yn 10) (bc 10) (ml 10) (rt 10)) := rfl
set_option maxRecDepth 100000 in
theorem cw_11 : wd 2176 = some (Cond.code (yn 11) (bc 11) (ml 11) (rt 11)) := rfl
set_option maxRecDepth 100000 in
theorem cw_12 : wd 2180 = some (Cond.code (yn 12) (bc 12) (ml 12) (rt 12)) := rfl
set_option maxRecDepth 100000 in
theorem cw_13 : wd 2184 = some (Cond.code (yn 13) (bc 13) (ml 13) (rt 13)) := rfl
set_option maxRecDepth 100000 in
theorem cw_14 : wd 2187 = some (Cond.code (yn 14) (bc 14) (ml 14) (rt 14)) := rfl
set_option maxRecDepth 100000 in
theorem cw_15 : wd 2190 = some (Cond.code (yn 15) (bc 15) (ml 15) (rt 15)) := rfl
set_option maxRecDepth 100000 in
theorem cw_16 : wd 2194 = some (Cond.code (yn 16) (bc 16) (ml 16) (rt 16)) := rfl
set_option maxRecDepth 100000 in
theorem cw_17 : wd 2198 = some (Cond.code (yn 17) (bc 17) (ml 17) (rt 17)) := rfl
set_option maxRecDepth 100000 in
theorem cw_18 : wd 2202 = some (Cond.code (yn 18) (bc 18) (ml 18) (rt 18)) := rfl
set_option maxRecDepth 100000 in
theorem cw_19 : wd 2206 = some (Cond.code (yn 19) (bc 19) (ml 19) (rt 19)) := rfl
set_option maxRecDepth 100000 in
theorem cw_20 : wd 2210 = some (Cond.code (yn 20) (bc 20) (ml 20) (rt 20)) := rfl
set_option maxRecDepth 100000 in
theorem cw_21 : wd 2220 = some (Cond.code (yn 21) (bc 21) (ml 21) (rt 21)) := rfl
set_option maxRecDepth 100000 in
theorem cw_22 : wd 2224 = some (Cond.code (yn 22) (bc 22) (ml 22) (rt 22)) := rfl
set_option maxRecDepth 100000 in
theorem cw_23 : wd 2227 = some (Cond.code (yn 23) (bc 23) (ml 23) (rt 23)) := rfl
set_option maxRecDepth 100000 in
theorem cw_24 : wd 2236 = some (Cond.code (yn 24) (bc 24) (ml 24) (rt 24)) := rfl
set_option maxRecDepth 100000 in
theorem cw_25 : wd 3000 = some (Cond.code (yn 25) (bc 25) (ml 25) (rt 25)) := rfl
set_option maxRecDepth 100000 in
theorem cw_26 : wd 3006 = some (Cond.code (yn 26) (bc 26) (ml 26) (rt 26)) := rfl
set_option maxRecDepth 100000 in
theorem cw_27 : wd 3009 = some (Cond.code (yn 27) (bc 27) (ml 27) (rt 27)) := rfl
set_option maxRecDepth 100000 in
theorem cw_28 : wd 3012 = some (Cond.code (yn 28) (bc 28) (ml 28) (rt 28)) := rfl
set_option maxRecDepth 100000 in
theorem cw_29 : wd 3015 = some (Cond.code (yn 29) (bc 29) (ml 29) (rt 29)) := rfl
set_option maxRecDepth 100000 in
theorem cw_30 : wd 3019 = some (Cond.code (yn 30) (bc 30) (ml 30) (rt 30)) := rfl
set_option maxRecDepth 100000 in
theorem cw_31 : wd 3023 = some (Cond.code (yn 31) (bc 31) (ml 31) (rt 31)) := rfl
set_option maxRecDepth 100000 in
theorem cw_32 : wd 3030 = some (Cond.code (yn 32) (bc 32) (ml 32) (rt 32)) := rfl
set_option maxRecDepth 100000 in
theorem cw_33 : wd 3034 = some (Cond.code (yn 33) (bc 33) (ml 33) (rt 33)) := rfl
set_option maxRecDepth 100000 in
theorem cw_34 : wd 3039 = some (Cond.code (yn 34) (bc 34) (ml 34) (rt 34)) := rfl
set_option maxRecDepth 100000 in
theorem cw_35 : wd 3043 = some (Cond.code (yn 35) (bc 35) (ml 35) (rt 35)) := rfl
set_option maxRecDepth 100000 in
theorem cw_36 : wd 3047 = some (Cond.code (yn 36) (bc 36) (ml 36) (rt 36)) := rfl
set_option maxRecDepth 100000 in
theorem cw_37 : wd 3054 = some (Cond.code (yn 37) (bc 37) (ml 37) (rt 37)) := rfl
set_option maxRecDepth 100000 in
theorem cw_38 : wd 3058 = some (Cond.code (yn 38) (bc 38) (ml 38) (rt 38)) := rfl
set_option maxRecDepth 100000 in
theorem cw_39 : wd 3062 = some (Cond.code (yn 39) (bc 39) (ml 39) (rt 39)) := rfl
set_option maxRecDepth 100000 in
theorem cw_40 : wd 3066 = some (Cond.code (yn 40) (bc 40) (ml 40) (rt 40)) := rfl
set_option maxRecDepth 100000 in
theorem cw_41 : wd 3071 = some (Cond.code (yn 41) (bc 41) (ml 41) (rt 41)) := rfl
set_option maxRecDepth 100000 in
theorem cw_42 : wd 3074 = some (Cond.code (yn 42) (bc 42) (ml 42) (rt 42)) := rfl
set_option maxRecDepth 100000 in
theorem cw_43 : wd 3077 = some (Cond.code (yn 43) (bc 43) (ml 43) (rt 43)) := rfl
set_option maxRecDepth 100000 in
theorem cw_44 : wd 3080 = some (Cond.code (yn 44) (bc 44) (ml 44) (rt 44)) := rfl
set_option maxRecDepth 100000 in
theorem cw_45 : wd 3083 = some (Cond.code (yn 45) (bc 45) (ml 45) (rt 45)) := rfl
set_option maxRecDepth 100000 in
theorem cw_46 : wd 3087 = some (Cond.code (yn 46) (bc 46) (ml 46) (rt 46)) := rfl
set_option maxRecDepth 100000 in
theorem cw_47 : wd 3091 = some (Cond.code (yn 47) (bc 47) (ml 47) (rt 47)) := rfl
set_option maxRecDepth 100000 in
theorem cw_48 : wd 3097 = some (Cond.code (yn 48) (bc 48) (ml 48) (rt 48)) := rfl
set_option maxRecDepth 100000 in
theorem cw_49 : wd 3101 = some (Cond.code (yn 49) (bc 49) (ml 49) (rt 49)) := rfl
set_option maxRecDepth 100000 in
theorem cw_50 : wd 3104 = some (Cond.code (yn 50) (bc 50) (ml 50) (rt 50)) := rfl
set_option maxRecDepth 100000 in
theorem cw_51 : wd 3107 = some (Cond.code (yn 51) (bc 51) (ml 51) (rt 51)) := rfl
set_option maxRecDepth 100000 in
theorem cw_52 : wd 3112 = some (Cond.code (yn 52) (bc 52) (ml 52) (rt 52)) := rfl
set_option maxRecDepth 100000 in
theorem cw_53 : wd 3134 = some (Cond.code (yn 53) (bc 53) (ml 53) (rt 53)) := rfl
set_option maxRecDepth 100000 in
theorem cw_54 : wd 3139 = some (Cond.code (yn 54) (bc 54) (ml 54) (rt 54)) := rfl
set_option maxRecDepth 100000 in
theorem cw_55 : wd 3143 = some (Cond.code (yn 55) (bc 55) (ml 55) (rt 55)) := rfl
set_option maxRecDepth 100000 in
theorem cw_56 : wd 3147 = some (Cond.code (yn 56) (bc 56) (ml 56) (rt 56)) := rfl
set_option maxRecDepth 100000 in
theorem cw_57 : wd 3150 = some (Cond.code (yn 57) (bc 57) (ml 57) (rt 57)) := rfl
set_option maxRecDepth 100000 in
theorem cw_58 : wd 3155 = some (Cond.code (yn 58) (bc 58) (ml 58) (rt 58)) := rfl
set_option maxRecDepth 100000 in
theorem cw_59 : wd 3194 = some (Cond.code (yn 59) (bc 59) (ml 59) (rt 59)) := rfl
set_option maxRecDepth 100000 in
theorem cw_60 : wd 3198 = some (Cond.code (yn 60) (bc 60) (ml 60) (rt 60)) := rfl
set_option maxRecDepth 100000 in
theorem cw_61 : wd 3202 = some (Cond.code (yn 61) (bc 61) (ml 61) (rt 61)) := rfl
set_option maxRecDepth 100000 in
theorem cw_62 : wd 3206 = some (Cond.code (yn 62) (bc 62) (ml 62) (rt 62)) := rfl
set_option maxRecDepth 100000 in
theorem cw_63 : wd 3212 = some (Cond.code (yn 63) (bc 63) (ml 63) (rt 63)) := rfl
set_option maxRecDepth 100000 in
theorem cw_64 : wd 3216 = some (Cond.code (yn 64) (bc 64) (ml 64) (rt 64)) := rfl
set_option maxRecDepth 100000 in
theorem cw_65 : wd 3220 = some (Cond.code (yn 65) (bc 65) (ml 65) (rt 65)) := rfl
set_option maxRecDepth 100000 in
theorem cw_66 : wd 3224 = some (Cond.code (yn 66) (bc 66) (ml 66) (rt 66)) := rfl
set_option maxRecDepth 100000 in
theorem cw_67 : wd 3228 = some (Cond.code (yn 67) (bc 67) (ml 67) (rt 67)) := rfl
set_option maxRecDepth 100000 in
theorem cw_68 : wd 3233 = some (Cond.code (yn 68) (bc 68) (ml 68) (rt 68)) := rfl
set_option maxRecDepth 100000 in
theorem cw_69 : wd 3237 = some (Cond.code (yn 69) (bc 69) (ml 69) (rt 69)) := rfl
set_option maxRecDepth 100000 in
theorem cw_70 : wd 4003 = some (Cond.code (yn 70) (bc 70) (ml 70) (rt 70)) := rfl
set_option maxRecDepth 100000 in
theorem cw_71 : wd 4007 = some (Cond.code (yn 71) (bc 71) (ml 71) (rt 71)) := rfl
set_option maxRecDepth 100000 in
theorem cw_72 : wd 4011 = some (Cond.code (yn 72) (bc 72) (ml 72) (rt 72)) := rfl
set_option maxRecDepth 100000 in
theorem cw_73 : wd 4015 = some (Cond.code (yn 73) (bc 73) (ml 73) (rt 73)) := rfl
set_option maxRecDepth 100000 in
theorem cw_74 : wd 4019 = some (Cond.code (yn 74) (bc 74) (ml 74) (rt 74)) := rfl
set_option maxRecDepth 100000 in
theorem cw_75 : wd 4024 = some (Cond.code (yn 75) (bc 75) (ml 75) (rt 75)) := rfl
set_option maxRecDepth 100000 in
theorem cw_76 : wd 4028 = some (Cond.code (yn 76) (bc 76) (ml 76) (rt 76)) := rfl
set_option maxRecDepth 100000 in
theorem cw_77 : wd 4032 = some (Cond.code (yn 77) (bc 77) (ml 77) (rt 77)) := rfl
set_option maxRecDepth 100000 in
theorem cw_78 : wd 4037 = some (Cond.code (yn 78) (bc 78) (ml 78) (rt 78)) := rfl
set_option maxRecDepth 100000 in
theorem cw_79 : wd 4042 = some (Cond.code (yn 79) (bc 79) (ml 79) (rt 79)) := rfl
set_option maxRecDepth 100000 in
theorem cw_80 : wd 4050 = some (Cond.code (yn 80) (bc 80) (ml 80) (rt 80)) := rfl
set_option maxRecDepth 100000 in
theorem cw_81 : wd 4054 = some (Cond.code (yn 81) (bc 81) (ml 81) (rt 81)) := rfl
set_option maxRecDepth 100000 in
theorem cw_82 : wd 4060 = some (Cond.code (yn 82) (bc 82) (ml 82) (rt 82)) := rfl
set_option maxRecDepth 100000 in
theorem cw_83 : wd 4064 = some (Cond.code (yn 83) (bc 83) (ml 83) (rt 83)) := rfl
set_option maxRecDepth 100000 in
theorem cw_84 : wd 4068 = some (Cond.code (yn 84) (bc 84) (ml 84) (rt 84)) := rfl
set_option maxRecDepth 100000 in
theorem cw_85 : wd 4072 = some (Cond.code (yn 85) (bc 85) (ml 85) (rt 85)) := rfl
set_option maxRecDepth 100000 in
theorem cw_86 : wd 4077 = some (Cond.code (yn 86) (bc 86) (ml 86) (rt 86)) := rfl
set_option maxRecDepth 100000 in
theorem cw_87 : wd 4082 = some (Cond.code (yn 87) (bc 87) (ml 87) (rt 87)) := rfl
set_option maxRecDepth 100000 in
theorem cw_88 : wd 4087 = some (Cond.code (yn 88) (bc 88) (ml 88) (rt 88)) := rfl
set_option maxRecDepth 100000 in
theorem cw_89 : wd 4091 = some (Cond.code (yn 89) (bc 89) (ml 89) (rt 89)) := rfl
set_option maxRecDepth 100000 in
theorem cw_90 : wd 4095 = some (Cond.code (yn 90) (bc 90) (ml 90) (rt 90)) := rfl
set_option maxRecDepth 100000 in
theorem cw_91 : wd 4099 = some (Cond.code (yn 91) (bc 91) (ml 91) (rt 91)) := rfl
set_option maxRecDepth 100000 in
theorem cw_92 : wd 4104 = some (Cond.code (yn 92) (bc 92) (ml 92) (rt 92)) := rfl
set_option maxRecDepth 100000 in
theorem cw_93 : wd 4109 = some (Cond.code (yn 93) (bc 93) (ml 93) (rt 93)) := rfl
set_option maxRecDepth 100000 in
theorem cw_94 : wd 4113 = some (Cond.code (yn 94) (bc 94) (ml 94) (rt 94)) := rfl
set_option maxRecDepth 100000 in
theorem cw_95 : wd 4117 = some (Cond.code (yn 95) (bc 95) (ml 95) (rt 95)) := rfl
set_option maxRecDepth 100000 in
theorem cw_96 : wd 4120 = some (Cond.code (yn 96) (bc 96) (ml 96) (rt 96)) := rfl
set_option maxRecDepth 100000 in
theorem cw_97 : wd 4124 = some (Cond.code (yn 97) (bc 97) (ml 97) (rt 97)) := rfl
set_option maxRecDepth 100000 in
theorem cw_98 : wd 4128 = some (Cond.code (yn 98) (bc 98) (ml 98) (rt 98)) := rfl
set_option maxRecDepth 100000 in
theorem cw_99 : wd 4131 = some (Cond.code (yn 99) (bc 99) (ml 99) (rt 99)) := rfl
set_option maxRecDepth 100000 in
theorem cw_100 : wd 4136 = some (Cond.code (yn 100) (bc 100) (ml 100) (rt 100)) := rfl
set_option maxRecDepth 100000 in
theorem cw_101 : wd 4139 = some (Cond.code (yn 101) (bc 101) (ml 101) (rt 101)) := rfl
set_option maxRecDepth 100000 in
theorem cw_102 : wd 4142 = some (Cond.code (yn 102) (bc 102) (ml 102) (rt 102)) := rfl
set_option maxRecDepth 100000 in
theorem cw_103 : wd 4149 = some (Cond.code (yn 103) (bc 103) (ml 103) (rt 103)) := rfl
set_option maxRecDepth 100000 in
theorem cw_104 : wd 4152 = some (Cond.code (yn 104) (bc 104) (ml 104) (rt 104)) := rfl
set_option maxRecDepth 100000 in
theorem cw_105 : wd 4155 = some (Cond.code (yn 105) (bc 105) (ml 105) (rt 105)) := rfl
set_option maxRecDepth 100000 in
theorem cw_106 : wd 4162 = some (Cond.code (yn 106) (bc 106) (ml 106) (rt 106)) := rfl
set_option maxRecDepth 100000 in
theorem cw_107 : wd 4168 = some (Cond.code (yn 107) (bc 107) (ml 107) (rt 107)) := rfl
set_option maxRecDepth 100000 in
theorem cw_108 : wd 4172 = some (Cond.code (yn 108) (bc 108) (ml 108) (rt 108)) := rfl
set_option maxRecDepth 100000 in
theorem cw_109 : wd 4175 = some (Cond.code (yn 109) (bc 109) (ml 109) (rt 109)) := rfl
set_option maxRecDepth 100000 in
theorem cw_110 : wd 4179 = some (Cond.code (yn 110) (bc 110) (ml 110) (rt 110)) := rfl
set_option maxRecDepth 100000 in
theorem cw_111 : wd 4189 = some (Cond.code (yn 111) (bc 111) (ml 111) (rt 111)) := rfl
set_option maxRecDepth 100000 in
theorem cw_112 : wd 4193 = some (Cond.code (yn 112) (bc 112) (ml 112) (rt 112)) := rfl
set_option maxRecDepth 100000 in
theorem cw_113 : wd 4198 = some (Cond.code (yn 113) (bc 113) (ml 113) (rt 113)) := rfl
set_option maxRecDepth 100000 in
theorem cw_114 : wd 4201 = some (Cond.code (yn 114) (bc 114) (ml 114) (rt 114)) := rfl
set_option maxRecDepth 100000 in
theorem cw_115 : wd 4205 = some (Cond.code (yn 115) (bc 115) (ml 115) (rt 115)) := rfl
set_option maxRecDepth 100000 in
theorem cw_116 : wd 4210 = some (Cond.code (yn 116) (bc 116) (ml 116) (rt 116)) := rfl
set_option maxRecDepth 100000 in
theorem cw_117 : wd 4213 = some (Cond.code (yn 117) (bc 117) (ml 117) (rt 117)) := rfl
set_option maxRecDepth 100000 in
theorem cw_118 : wd 4216 = some (Cond.code (yn 118) (bc 118) (ml 118) (rt 118)) := rfl
set_option maxRecDepth 100000 in
theorem cw_119 : wd 4219 = some (Cond.code (yn 119) (bc 119) (ml 119) (rt 119)) := rfl
set_option maxRecDepth 100000 in
theorem cw_120 : wd 4223 = some (Cond.code (yn 120) (bc 120) (ml 120) (rt 120)) := rfl
set_option maxRecDepth 100000 in
theorem cw_121 : wd 4226 = some (Cond.code (yn 121) (bc 121) (ml 121) (rt 121)) := rfl
set_option maxRecDepth 100000 in
theorem cw_122 : wd 4231 = some (Cond.code (yn 122) (bc 122) (ml 122) (rt 122)) := rfl
set_option maxRecDepth 100000 in
theorem cw_123 : wd 4234 = some (Cond.code (yn 123) (bc 123) (ml 123) (rt 123)) := rfl
set_option maxRecDepth 100000 in
theorem cw_124 : wd 4238 = some (Cond.code (yn 124) (bc 124) (ml 124) (rt 124)) := rfl
set_option maxRecDepth 100000 in
theorem cw_125 : wd 5002 = some (Cond.code (yn 125) (bc 125) (ml 125) (rt 125)) := rfl
set_option maxRecDepth 100000 in
theorem cw_126 : wd 5006 = some (Cond.code (yn 126) (bc 126) (ml 126) (rt 126)) := rfl
set_option maxRecDepth 100000 in
theorem cw_127 : wd 5009 = some (Cond.code (yn 127) (bc 127) (ml 127) (rt 127)) := rfl
set_option maxRecDepth 100000 in
theorem cw_128 : wd 5013 = some (Cond.code (yn 128) (bc 128) (ml 128) (rt 128)) := rfl
set_option maxRecDepth 100000 in
theorem cw_129 : wd 5017 = some (Cond.code (yn 129) (bc 129) (ml 129) (rt 129)) := rfl
set_option maxRecDepth 100000 in
theorem cw_130 : wd 5021 = some (Cond.code (yn 130) (bc 130) (ml 130) (rt 130)) := rfl
set_option maxRecDepth 100000 in
theorem cw_131 : wd 5024 = some (Cond.code (yn 131) (bc 131) (ml 131) (rt 131)) := rfl
set_option maxRecDepth 100000 in
theorem cw_132 : wd 5028 = some (Cond.code (yn 132) (bc 132) (ml 132) (rt 132)) := rfl
set_option maxRecDepth 100000 in
theorem cw_133 : wd 5031 = some (Cond.code (yn 133) (bc 133) (ml 133) (rt 133)) := rfl
set_option maxRecDepth 100000 in
theorem cw_134 : wd 5035 = some (Cond.code (yn 134) (bc 134) (ml 134) (rt 134)) := rfl
set_option maxRecDepth 100000 in
theorem cw_135 : wd 5039 = some (Cond.code (yn 135) (bc 135) (ml 135) (rt 135)) := rfl
set_option maxRecDepth 100000 in
theorem cw_136 : wd 5043 = some (Cond.code (yn 136) (bc 136) (ml 136) (rt 136)) := rfl
set_option maxRecDepth 100000 in
theorem cw_137 : wd 5046 = some (Cond.code (yn 137) (bc 137) (ml 137) (rt 137)) := rfl
set_option maxRecDepth 100000 in
theorem cw_138 : wd 5049 = some (Cond.code (yn 138) (bc 138) (ml 138) (rt 138)) := rfl
set_option maxRecDepth 100000 in
theorem cw_139 : wd 5053 = some (Cond.code (yn 139) (bc 139) (ml 139) (rt 139)) := rfl
set_option maxRecDepth 100000 in
theorem cw_140 : wd 5056 = some (Cond.code (yn 140) (bc 140) (ml 140) (rt 140)) := rfl
set_option maxRecDepth 100000 in
theorem cw_141 : wd 5059 = some (Cond.code (yn 141) (bc 141) (ml 141) (rt 141)) := rfl
set_option maxRecDepth 100000 in
theorem cw_142 : wd 5063 = some (Cond.code (yn 142) (bc 142) (ml 142) (rt 142)) := rfl
set_option maxRecDepth 100000 in
theorem cw_143 : wd 5067 = some (Cond.code (yn 143) (bc 143) (ml 143) (rt 143)) := rfl
set_option maxRecDepth 100000 in
theorem cw_144 : wd 5070 = some (Cond.code (yn 144) (bc 144) (ml 144) (rt 144)) := rfl
set_option maxRecDepth 100000 in
theorem cw_145 : wd 5073 = some (Cond.code (yn 145) (bc 145) (ml 145) (rt 145)) := rfl
set_option maxRecDepth 100000 in
theorem cw_146 : wd 5077 = some (Cond.code (yn 146) (bc 146) (ml 146) (rt 146)) := rfl
set_option maxRecDepth 100000 in
theorem cw_147 : wd 5081 = some (Cond.code (yn 147) (bc 147) (ml 147) (rt 147)) := rfl
set_option maxRecDepth 100000 in
theorem cw_148 : wd 5086 = some (Cond.code (yn 148) (bc 148) (ml 148) (rt 148)) := rfl
set_option maxRecDepth 100000 in
theorem cw_149 : wd 5090 = some (Cond.code (yn 149) (bc 149) (ml 149) (rt 149)) := rfl
set_option maxRecDepth 100000 in
theorem cw_150 : wd 5093 = some (Cond.code (yn 150) (bc 150) (ml 150) (rt 150)) := rfl
set_option maxRecDepth 100000 in
theorem cw_151 : wd 5096 = some (Cond.code (yn 151) (bc 151) (ml 151) (rt 151)) := rfl
set_option maxRecDepth 100000 in
theorem cw_152 : wd 5100 = some (Cond.code (yn 152) (bc 152) (ml 152) (rt 152)) := rfl
set_option maxRecDepth 100000 in
theorem cw_153 : wd 5103 = some (Cond.code (yn 153) (bc 153) (ml 153) (rt 153)) := rfl
set_option maxRecDepth 100000 in
theorem cw_154 : wd 5108 = some (Cond.code (yn 154) (bc 154) (ml 154) (rt 154)) := rfl
set_option maxRecDepth 100000 in
theorem cw_155 : wd 5111 = some (Cond.code (yn 155) (bc 155) (ml 155) (rt 155)) := rfl
set_option maxRecDepth 100000 in
theorem cw_156 : wd 5115 = some (Cond.code (yn 156) (bc 156) (ml 156) (rt 156)) := rfl
set_option maxRecDepth 100000 in
theorem cw_157 : wd 5118 = some (Cond.code (yn 157) (bc 157) (ml 157) (rt 157)) := rfl
set_option maxRecDepth 100000 in
theorem cw_158 : wd 5122 = some (Cond.code (yn 158) (bc 158) (ml 158) (rt 158)) := rfl
set_option maxRecDepth 100000 in
theorem cw_159 : wd 5126 = some (Cond.code (yn 159) (bc 159) (ml 159) (rt 159)) := rfl
set_option maxRecDepth 100000 in
theorem cw_160 : wd 5130 = some (Cond.code (yn 160) (bc 160) (ml 160) (rt 160)) := rfl
set_option maxRecDepth 100000 in
theorem cw_161 : wd 5134 = some (Cond.code (yn 161) (bc 161) (ml 161) (rt 161)) := rfl
set_option maxRecDepth 100000 in
theorem cw_162 : wd 5138 = some (Cond.code (yn 162) (bc 162) (ml 162) (rt 162)) := rfl
set_option maxRecDepth 100000 in
theorem cw_163 : wd 5141 = some (Cond.code (yn 163) (bc 163) (ml 163) (rt 163)) := rfl
set_option maxRecDepth 100000 in
theorem cw_164 : wd 5144 = some (Cond.code (yn 164) (bc 164) (ml 164) (rt 164)) := rfl
set_option maxRecDepth 100000 in
theorem cw_165 : wd 5147 = some (Cond.code (yn 165) (bc 165) (ml 165) (rt 165)) := rfl
set_option maxRecDepth 100000 in
theorem cw_166 : wd 5150 = some (Cond.code (yn 166) (bc 166) (ml 166) (rt 166)) := rfl
set_option maxRecDepth 100000 in
theorem cw_167 : wd 5156 = some (Cond.code (yn 167) (bc 167) (ml 167) (rt 167)) := rfl
set_option maxRecDepth 100000 in
theorem cw_168 : wd 5159 = some (Cond.code (yn 168) (bc 168) (ml 168) (rt 168)) := rfl
set_option maxRecDepth 100000 in
theorem cw_169 : wd 5162 = some (Cond.code (yn 169) (bc 169) (ml 169) (rt 169)) := rfl
set_option maxRecDepth 100000 in
theorem cw_170 : wd 5167 = some (Cond.code (yn 170) (bc 170) (ml 170) (rt 170)) := rfl
set_option maxRecDepth 100000 in
theorem cw_171 : wd 5171 = some (Cond.code (yn 171) (bc 171) (ml 171) (rt 171)) := rfl
set_option maxRecDepth 100000 in
theorem cw_172 : wd 5175 = some (Cond.code (yn 172) (bc 172) (ml 172) (rt 172)) := rfl
set_option maxRecDepth 100000 in
theorem cw_173 : wd 5182 = some (Cond.code (yn 173) (bc 173) (ml 173) (rt 173)) := rfl
set_option maxRecDepth 100000 in
theorem cw_174 : wd 5187 = some (Cond.code (yn 174) (bc 174) (ml 174) (rt 174)) := rfl
set_option maxRecDepth 100000 in
theorem cw_175 : wd 5193 = some (Cond.code (yn 175) (bc 175) (ml 175) (rt 175)) := rfl
set_option maxRecDepth 100000 in
theorem cw_176 : wd 5199 = some (Cond.code (yn 176) (bc 176) (ml 176) (rt 176)) := rfl
set_option maxRecDepth 100000 in
theorem cw_177 : wd 5205 = some (Cond.code (yn 177) (bc 177) (ml 177) (rt 177)) := rfl
set_option maxRecDepth 100000 in
theorem cw_178 : wd 6178 = some (Cond.code (yn 178) (bc 178) (ml 178) (rt 178)) := rfl
set_option maxRecDepth 100000 in
theorem cw_179 : wd 6182 = some (Cond.code (yn 179) (bc 179) (ml 179) (rt 179)) := rfl
set_option maxRecDepth 100000 in
theorem cw_180 : wd 6186 = some (Cond.code (yn 180) (bc 180) (ml 180) (rt 180)) := rfl
set_option maxRecDepth 100000 in
theorem cw_181 : wd 6190 = some (Cond.code (yn 181) (bc 181) (ml 181) (rt 181)) := rfl
set_option maxRecDepth 100000 in
theorem cw_182 : wd 6194 = some (Cond.code (yn 182) (bc 182) (ml 182) (rt 182)) := rfl
set_option maxRecDepth 100000 in
theorem cw_183 : wd 6198 = some (Cond.code (yn 183) (bc 183) (ml 183) (rt 183)) := rfl
set_option maxRecDepth 100000 in
theorem cw_184 : wd 6202 = some (Cond.code (yn 184) (bc 184) (ml 184) (rt 184)) := rfl
set_option maxRecDepth 100000 in
theorem cw_185 : wd 6206 = some (Cond.code (yn 185) (bc 185) (ml 185) (rt 185)) := rfl
set_option maxRecDepth 100000 in
theorem cw_186 : wd 6210 = some (Cond.code (yn 186) (bc 186) (ml 186) (rt 186)) := rfl
set_option maxRecDepth 100000 in
theorem cw_187 : wd 6214 = some (Cond.code (yn 187) (bc 187) (ml 187) (rt 187)) := rfl
set_option maxRecDepth 100000 in
theorem cw_188 : wd 6218 = some (Cond.code (yn 188) (bc 188) (ml 188) (rt 188)) := rfl
set_option maxRecDepth 100000 in
theorem cw_189 : wd 6222 = some (Cond.code (yn 189) (bc 189) (ml 189) (rt 189)) := rfl
set_option maxRecDepth 100000 in
theorem cw_190 : wd 6226 = some (Cond.code (yn 190) (bc 190) (ml 190) (rt 190)) := rfl
set_option maxRecDepth 100000 in
theorem cw_191 : wd 6230 = some (Cond.code (yn 191) (bc 191) (ml 191) (rt 191)) := rfl
set_option maxRecDepth 100000 in
theorem cw_192 : wd 6234 = some (Cond.code (yn 192) (bc 192) (ml 192) (rt 192)) := rfl
set_option maxRecDepth 100000 in
theorem cw_193 : wd 6238 = some (Cond.code (yn 193) (bc 193) (ml 193) (rt 193)) := rfl
set_option maxRecDepth 100000 in
theorem cw_194 : wd 7002 = some (Cond.code (yn 194) (bc 194) (ml 194) (rt 194)) := rfl
set_option maxRecDepth 100000 in
theorem cw_195 : wd 7006 = some (Cond.code (yn 195) (bc 195) (ml 195) (rt 195)) := rfl
set_option maxRecDepth 100000 in
theorem cw_196 : wd 7010 = some (Cond.code (yn 196) (bc 196) (ml 196) (rt 196)) := rfl
set_option maxRecDepth 100000 in
theorem cw_197 : wd 7014 = some (Cond.code (yn 197) (bc 197) (ml 197) (rt 197)) := rfl
set_option maxRecDepth 100000 in
theorem cw_198 : wd 7018 = some (Cond.code (yn 198) (bc 198) (ml 198) (rt 198)) := rfl
set_option maxRecDepth 100000 in
theorem cw_199 : wd 7022 = some (Cond.code (yn 199) (bc 199) (ml 199) (rt 199)) := rfl
set_option maxRecDepth 100000 in
theorem cw_200 : wd 7026 = some (Cond.code (yn 200) (bc 200) (ml 200) (rt 200)) := rfl
set_option maxRecDepth 100000 in
theorem cw_201 : wd 7030 = some (Cond.code (yn 201) (bc 201) (ml 201) (rt 201)) := rfl
set_option maxRecDepth 100000 in
theorem cw_202 : wd 7034 = some (Cond.code (yn 202) (bc 202) (ml 202) (rt 202)) := rfl
set_option maxRecDepth 100000 in
theorem cw_203 : wd 7038 = some (Cond.code (yn 203) (bc 203) (ml 203) (rt 203)) := rfl
set_option maxRecDepth 100000 in
theorem cw_204 : wd 7042 = some (Cond.code (yn 204) (bc 204) (ml 204) (rt 204)) := rfl
set_option maxRecDepth 100000 in
theorem cw_205 : wd 7046 = some (Cond.code (yn 205) (bc 205) (ml 205) (rt 205)) := rfl
set_option maxRecDepth 100000 in
theorem cw_206 : wd 7050 = some (Cond.code (yn 206) (bc 206) (ml 206) (rt 206)) := rfl
set_option maxRecDepth 100000 in
theorem cw_207 : wd 7054 = some (Cond.code (yn 207) (bc 207) (ml 207) (rt 207)) := rfl
set_option maxRecDepth 100000 in
theorem cw_208 : wd 7058 = some (Cond.code (yn 208) (bc 208) (ml 208) (rt 208)) := rfl
set_option maxRecDepth 100000 in
theorem cw_209 : wd 7062 = some (Cond.code (yn 209) (bc 209) (ml 209) (rt 209)) := rfl
set_option maxRecDepth 100000 in
theorem cw_210 : wd 7066 = some (Cond.code (yn 210) (bc 210) (ml 210) (rt 210)) := rfl
set_option maxRecDepth 100000 in
theorem cw_211 : wd 7070 = some (Cond.code (yn 211) (bc 211) (ml 211) (rt 211)) := rfl
set_option maxRecDepth 100000 in
theorem cw_212 : wd 7074 = some (Cond.code (yn 212) (bc 212) (ml 212) (rt 212)) := rfl
set_option maxRecDepth 100000 in
theorem cw_213 : wd 7078 = some (Cond.code (yn 213) (bc 213) (ml 213) (rt 213)) := rfl
set_option maxRecDepth 100000 in
theorem cw_214 : wd 7082 = some (Cond.code (yn 214) (bc 214) (ml 214) (rt 214)) := rfl
set_option maxRecDepth 100000 in
theorem cw_215 : wd 7086 = some (Cond.code (yn 215) (bc 215) (ml 215) (rt 215)) := rfl
set_option maxRecDepth 100000 in
theorem cw_216 : wd 7090 = some (Cond.code (yn 216) (bc 216) (ml 216) (rt 216)) := rfl
set_option maxRecDepth 100000 in
theorem cw_217 : wd 7094 = some (Cond.code (yn 217) (bc 217) (ml 217) (rt 217)) := rfl
set_option maxRecDepth 100000 in
theorem cw_218 : wd 7098 = some (Cond.code (yn 218) (bc 218) (ml 218) (rt 218)) := rfl
set_option maxRecDepth 100000 in
theorem cw_219 : wd 7102 = some (Cond.code (yn 219) (bc 219) (ml 219) (rt 219)) := rfl
set_option maxRecDepth 100000 in
theorem cw_220 : wd 7106 = some (Cond.code (yn 220) (bc 220) (ml 220) (rt 220)) := rfl
set_option maxRecDepth 100000 in
theorem cw_221 : wd 7110 = some (Cond.code (yn 221) (bc 221) (ml 221) (rt 221)) := rfl
set_option maxRecDepth 100000 in
theorem cw_222 : wd 7114 = some (Cond.code (yn 222) (bc 222) (ml 222) (rt 222)) := rfl
set_option maxRecDepth 100000 in
theorem cw_223 : wd 7118 = some (Cond.code (yn 223) (bc 223) (ml 223) (rt 223)) := rfl
set_option maxRecDepth 100000 in
theorem cw_224 : wd 7122 = some (Cond.code (yn 224) (bc 224) (ml 224) (rt 224)) := rfl
set_option maxRecDepth 100000 in
theorem cw_225 : wd 7126 = some (Cond.code (yn 225) (bc 225) (ml 225) (rt 225)) := rfl
set_option maxRecDepth 100000 in
theorem cw_226 : wd 7130 = some (Cond.code (yn 226) (bc 226) (ml 226) (rt 226)) := rfl
set_option maxRecDepth 100000 in
theorem cw_227 : wd 7134 = some (Cond.code (yn 227) (bc 227) (ml 227) (rt 227)) := rfl
set_option maxRecDepth 100000 in
theorem cw_228 : wd 7138 = some (Cond.code (yn 228) (bc 228) (ml 228) (rt 228)) := rfl
set_option maxRecDepth 100000 in
theorem cw_229 : wd 7142 = some (Cond.code (yn 229) (bc 229) (ml 229) (rt 229)) := rfl
set_option maxRecDepth 100000 in
theorem cw_230 : wd 7146 = some (Cond.code (yn 230) (bc 230) (ml 230) (rt 230)) := rfl
set_option maxRecDepth 100000 in
theorem cw_231 : wd 7150 = some (Cond.code (yn 231) (bc 231) (ml 231) (rt 231)) := rfl
set_option maxRecDepth 100000 in
theorem cw_232 : wd 7154 = some (Cond.code (yn 232) (bc 232) (ml 232) (rt 232)) := rfl
set_option maxRecDepth 100000 in
theorem cw_233 : wd 7158 = some (Cond.code (yn 233) (bc 233) (ml 233) (rt 233)) := rfl
set_option maxRecDepth 100000 in
theorem cw_234 : wd 7162 = some (Cond.code (yn 234) (bc 234) (ml 234) (rt 234)) := rfl
set_option maxRecDepth 100000 in
theorem cw_235 : wd 7166 = some (Cond.code (yn 235) (bc 235) (ml 235) (rt 235)) := rfl
set_option maxRecDepth 100000 in
theorem cw_236 : wd 7170 = some (Cond.code (yn 236) (bc 236) (ml 236) (rt 236)) := rfl
set_option maxRecDepth 100000 in
theorem cw_237 : wd 7174 = some (Cond.code (yn 237) (bc 237) (ml 237) (rt 237)) := rfl
set_option maxRecDepth 100000 in
theorem cw_238 : wd 7178 = some (Cond.code (yn 238) (bc 238) (ml 238) (rt 238)) := rfl
set_option maxRecDepth 100000 in
theorem cw_239 : wd 7182 = some (Cond.code (yn 239) (bc 239) (ml 239) (rt 239)) := rfl
set_option maxRecDepth 100000 in
theorem cw_240 : wd 7186 = some (Cond.code (yn 240) (bc 240) (ml 240) (rt 240)) := rfl
set_option maxRecDepth 100000 in
theorem cw_241 : wd 7190 = some (Cond.code (yn 241) (bc 241) (ml 241) (rt 241)) := rfl
set_option maxRecDepth 100000 in
theorem cw_242 : wd 7196 = some (Cond.code (yn 242) (bc 242) (ml 242) (rt 242)) := rfl
set_option maxRecDepth 100000 in
theorem cw_243 : wd 7200 = some (Cond.code (yn 243) (bc 243) (ml 243) (rt 243)) := rfl
set_option maxRecDepth 100000 in
theorem cw_244 : wd 7204 = some (Cond.code (yn 244) (bc 244) (ml 244) (rt 244)) := rfl
set_option maxRecDepth 100000 in
theorem cw_245 : wd 7208 = some (Cond.code (yn 245) (bc 245) (ml 245) (rt 245)) := rfl
set_option maxRecDepth 100000 in
theorem cw_246 : wd 7212 = some (Cond.code (yn 246) (bc 246) (ml 246) (rt 246)) := rfl
set_option maxRecDepth 100000 in
theorem cw_247 : wd 7216 = some (Cond.code (yn 247) (bc 247) (ml 247) (rt 247)) := rfl
set_option maxRecDepth 100000 in
theorem cw_248 : wd 7220 = some (Cond.code (yn 248) (bc 248) (ml 248) (rt 248)) := rfl
set_option maxRecDepth 100000 in
theorem cw_249 : wd 7224 = some (Cond.code (yn 249) (bc 249) (ml 249) (rt 249)) := rfl
set_option maxRecDepth 100000 in
theorem cw_250 : wd 7228 = some (Cond.code (yn 250) (bc 250) (ml 250) (rt 250)) := rfl
set_option maxRecDepth 100000 in
theorem cw_251 : wd 7232 = some (Cond.code (yn 251) (bc 251) (ml 251) (rt 251)) := rfl
set_option maxRecDepth 100000 in
theorem cw_252 : wd 7236 = some (Cond.code (yn 252) (bc 252) (ml 252) (rt 252)) := rfl
set_option maxRecDepth 100000 in
theorem cw_253 : wd 8000 = some (Cond.code (yn 253) (bc 253) (ml 253) (rt 253)) := rfl
set_option maxRecDepth 100000 in
theorem cw_254 : wd 8004 = some (Cond.code (yn 254) (bc 254) (ml 254) (rt 254)) := rfl
set_option maxRecDepth 100000 in
theorem cw_255 : wd 8008 = some (Cond.code (yn 255) (bc 255) (ml 255) (rt 255)) := rfl
set_option maxRecDepth 100000 in
theorem cw_256 : wd 8012 = some (Cond.code (yn 256) (bc 256) (ml 256) (rt 256)) := rfl
set_option maxRecDepth 100000 in
theorem cw_257 : wd 8016 = some (Cond.code (yn 257) (bc 257) (ml 257) (rt 257)) := rfl
set_option maxRecDepth 100000 in
theorem cw_258 : wd 8020 = some (Cond.code (yn 258) (bc 258) (ml 258) (rt 258)) := rfl
set_option maxRecDepth 100000 in
theorem cw_259 : wd 8024 = some (Cond.code (yn 259) (bc 259) (ml 259) (rt 259)) := rfl
set_option maxRecDepth 100000 in
theorem cw_260 : wd 8028 = some (Cond.code (yn 260) (bc 260) (ml 260) (rt 260)) := rfl
set_option maxRecDepth 100000 in
theorem cw_261 : wd 8032 = some (Cond.code (yn 261) (bc 261) (ml 261) (rt 261)) := rfl
set_option maxRecDepth 100000 in
theorem cw_262 : wd 8036 = some (Cond.code (yn 262) (bc 262) (ml 262) (rt 262)) := rfl
set_option maxRecDepth 100000 in
theorem cw_263 : wd 8040 = some (Cond.code (yn 263) (bc 263) (ml 263) (rt 263)) := rfl
set_option maxRecDepth 100000 in
theorem cw_264 : wd 8044 = some (Cond.code (yn 264) (bc 264) (ml 264) (rt 264)) := rfl
set_option maxRecDepth 100000 in
theorem cw_265 : wd 8048 = some (Cond.code (yn 265) (bc 265) (ml 265) (rt 265)) := rfl
set_option maxRecDepth 100000 in
theorem cw_266 : wd 8052 = some (Cond.code (yn 266) (bc 266) (ml 266) (rt 266)) := rfl
set_option maxRecDepth 100000 in
theorem cw_267 : wd 8056 = some (Cond.code (yn 267) (bc 267) (ml 267) (rt 267)) := rfl
set_option maxRecDepth 100000 in
theorem cw_268 : wd 8061 = some (Cond.code (yn 268) (bc 268) (ml 268) (rt 268)) := rfl
set_option maxRecDepth 100000 in
theorem cw_269 : wd 8065 = some (Cond.code (yn 269) (bc 269) (ml 269) (rt 269)) := rfl
set_option maxRecDepth 100000 in
theorem cw_270 : wd 8069 = some (Cond.code (yn 270) (bc 270) (ml 270) (rt 270)) := rfl
set_option maxRecDepth 100000 in
theorem cw_271 : wd 8073 = some (Cond.code (yn 271) (bc 271) (ml 271) (rt 271)) := rfl
set_option maxRecDepth 100000 in
theorem cw_272 : wd 8077 = some (Cond.code (yn 272) (bc 272) (ml 272) (rt 272)) := rfl
set_option maxRecDepth 100000 in
theorem cw_273 : wd 8081 = some (Cond.code (yn 273) (bc 273) (ml 273) (rt 273)) := rfl
set_option maxRecDepth 100000 in
theorem cw_274 : wd 8085 = some (Cond.code (yn 274) (bc 274) (ml 274) (rt 274)) := rfl
set_option maxRecDepth 100000 in
theorem cw_275 : wd 8089 = some (Cond.code (yn 275) (bc 275) (ml 275) (rt 275)) := rfl
set_option maxRecDepth 100000 in
theorem cw_276 : wd 8093 = some (Cond.code (yn 276) (bc 276) (ml 276) (rt 276)) := rfl
set_option maxRecDepth 100000 in
theorem cw_277 : wd 8097 = some (Cond.code (yn 277) (bc 277) (ml 277) (rt 277)) := rfl
set_option maxRecDepth 100000 in
theorem cw_278 : wd 8101 = some (Cond.code (yn 278) (bc 278) (ml 278) (rt 278)) := rfl
set_option maxRecDepth 100000 in
theorem cw_279 : wd 8105 = some (Cond.code (yn 279) (bc 279) (ml 279) (rt 279)) := rfl
set_option maxRecDepth 100000 in
theorem cw_280 : wd 8109 = some (Cond.code (yn 280) (bc 280) (ml 280) (rt 280)) := rfl
set_option maxRecDepth 100000 in
theorem cw_281 : wd 8113 = some (Cond.code (yn 281) (bc 281) (ml 281) (rt 281)) := rfl
set_option maxRecDepth 100000 in
theorem cw_282 : wd 8117 = some (Cond.code (yn 282) (bc 282) (ml 282) (rt 282)) := rfl
set_option maxRecDepth 100000 in
theorem cw_283 : wd 8121 = some (Cond.code (yn 283) (bc 283) (ml 283) (rt 283)) := rfl
set_option maxRecDepth 100000 in
theorem cw_284 : wd 8125 = some (Cond.code (yn 284) (bc 284) (ml 284) (rt 284)) := rfl
set_option maxRecDepth 100000 in
theorem cw_285 : wd 8129 = some (Cond.code (yn 285) (bc 285) (ml 285) (rt 285)) := rfl
set_option maxRecDepth 100000 in
theorem cw_286 : wd 8133 = some (Cond.code (yn 286) (bc 286) (ml 286) (rt 286)) := rfl
set_option maxRecDepth 100000 in
theorem cw_287 : wd 8137 = some (Cond.code (yn 287) (bc 287) (ml 287) (rt 287)) := rfl
set_option maxRecDepth 100000 in
theorem cw_288 : wd 8141 = some (Cond.code (yn 288) (bc 288) (ml 288) (rt 288)) := rfl
set_option maxRecDepth 100000 in
theorem cw_289 : wd 8145 = some (Cond.code (yn 289) (bc 289) (ml 289) (rt 289)) := rfl
set_option maxRecDepth 100000 in
theorem cw_290 : wd 8149 = some (Cond.code (yn 290) (bc 290) (ml 290) (rt 290)) := rfl
set_option maxRecDepth 100000 in
theorem cw_291 : wd 8153 = some (Cond.code (yn 291) (bc 291) (ml 291) (rt 291)) := rfl
set_option maxRecDepth 100000 in
theorem cw_292 : wd 8157 = some (Cond.code (yn 292) (bc 292) (ml 292) (rt 292)) := rfl
set_option maxRecDepth 100000 in
theorem cw_293 : wd 8161 = some (Cond.code (yn 293) (bc 293) (ml 293) (rt 293)) := rfl
set_option maxRecDepth 100000 in
theorem cw_294 : wd 8165 = some (Cond.code (yn 294) (bc 294) (ml 294) (rt 294)) := rfl
set_option maxRecDepth 100000 in
theorem cw_295 : wd 8169 = some (Cond.code (yn 295) (bc 295) (ml 295) (rt 295)) := rfl
set_option maxRecDepth 100000 in
theorem cw_296 : wd 8173 = some (Cond.code (yn 296) (bc 296) (ml 296) (rt 296)) := rfl
set_option maxRecDepth 100000 in
theorem cw_297 : wd 8177 = some (Cond.code (yn 297) (bc 297) (ml 297) (rt 297)) := rfl
set_option maxRecDepth 100000 in
theorem cw_298 : wd 8181 = some (Cond.code (yn 298) (bc 298) (ml 298) (rt 298)) := rfl
set_option maxRecDepth 100000 in
theorem cw_299 : wd 8185 = some (Cond.code (yn 299) (bc 299) (ml 299) (rt 299)) := rfl
set_option maxRecDepth 100000 in
theorem cw_300 : wd 8189 = some (Cond.code (yn 300) (bc 300) (ml 300) (rt 300)) := rfl
set_option maxRecDepth 100000 in
theorem cw_301 : wd 8193 = some (Cond.code (yn 301) (bc 301) (ml 301) (rt 301)) := rfl
set_option maxRecDepth 100000 in
theorem cw_302 : wd 8197 = some (Cond.code (yn 302) (bc 302) (ml 302) (rt 302)) := rfl
set_option maxRecDepth 100000 in
theorem cw_303 : wd 8201 = some (Cond.code (yn 303) (bc 303) (ml 303) (rt 303)) := rfl
set_option maxRecDepth 100000 in
theorem cw_304 : wd 8205 = some (Cond.code (yn 304) (bc 304) (ml 304) (rt 304)) := rfl
set_option maxRecDepth 100000 in
theorem cw_305 : wd 8210 = some (Cond.code (yn 305) (bc 305) (ml 305) (rt 305)) := rfl
set_option maxRecDepth 100000 in
theorem cw_306 : wd 8214 = some (Cond.code (yn 306) (bc 306) (ml 306) (rt 306)) := rfl
set_option maxRecDepth 100000 in
theorem cw_307 : wd 8218 = some (Cond.code (yn 307) (bc 307) (ml 307) (rt 307)) := rfl
set_option maxRecDepth 100000 in
theorem cw_308 : wd 8222 = some (Cond.code (yn 308) (bc 308) (ml 308) (rt 308)) := rfl
set_option maxRecDepth 100000 in
theorem cw_309 : wd 8226 = some (Cond.code (yn 309) (bc 309) (ml 309) (rt 309)) := rfl
set_option maxRecDepth 100000 in
theorem cw_310 : wd 8230 = some (Cond.code (yn 310) (bc 310) (ml 310) (rt 310)) := rfl
set_option maxRecDepth 100000 in
theorem cw_311 : wd 8234 = some (Cond.code (yn 311) (bc 311) (ml 311) (rt 311)) := rfl
set_option maxRecDepth 100000 in
theorem cw_312 : wd 8238 = some (Cond.code (yn 312) (bc 312) (ml 312) (rt 312)) := rfl
set_option maxRecDepth 100000 in
theorem cw_313 : wd 9002 = some (Cond.code (yn 313) (bc 313) (ml 313) (rt 313)) := rfl
theorem cw_all (j : Nat) (h0 : 0 < j) (h : j < 314) : Cond.code (yn j) (bc j) (ml j) (rt j) ∈ lw_tbl := by
  match j, h0, h with
  | 1, _, _ => exact wd_mem cw_1
  | 2, _, _ => exact wd_mem cw_2
  | 3, _, _ => exact wd_mem cw_3
  | 4, _, _ => exact wd_mem cw_4
  | 5, _, _ => exact wd_mem cw_5
  | 6, _, _ => exact wd_mem cw_6
  | 7, _, _ => exact wd_mem cw_7
  | 8, _, _ => exact wd_mem cw_8
  | 9, _, _ => exact wd_mem cw_9
  | 10, _, _ => exact wd_mem cw_10
  | 11, _, _ => exact wd_mem cw_11
  | 12, _, _ => exact wd_mem cw_12
  | 13, _, _ => exact wd_mem cw_13
  | 14, _, _ => exact wd_mem cw_14
  | 15, _, _ => exact wd_mem cw_15
  | 16, _, _ => exact wd_mem cw_16
  | 17, _, _ => exact wd_mem cw_17
  | 18, _, _ => exact wd_mem cw_18
  | 19, _, _ => exact wd_mem cw_19
  | 20, _, _ => exact wd_mem cw_20
  | 21, _, _ => exact wd_mem cw_21
  | 22, _, _ => exact wd_mem cw_22
  | 23, _, _ => exact wd_mem cw_23
  | 24, _, _ => exact wd_mem cw_24
  | 25, _, _ => exact wd_mem cw_25
  | 26, _, _ => exact wd_mem cw_26
  | 27, _, _ => exact wd_mem cw_27
  | 28, _, _ => exact wd_mem cw_28
  | 29, _, _ => exact wd_mem cw_29
  | 30, _, _ => exact wd_mem cw_30
  | 31, _, _ => exact wd_mem cw_31
  | 32, _, _ => exact wd_mem cw_32
  | 33, _, _ => exact wd_mem cw_33
  | 34, _, _ => exact wd_mem cw_34
  | 35, _, _ => exact wd_mem cw_35
  | 36, _, _ => exact wd_mem cw_36
  | 37, _, _ => exact wd_mem cw_37
  | 38, _, _ => exact wd_mem cw_38
  | 39, _, _ => exact wd_mem cw_39
  | 40, _, _ => exact wd_mem cw_40
  | 41, _, _ => exact wd_mem cw_41
  | 42, _, _ => exact wd_mem cw_42
  | 43, _, _ => exact wd_mem cw_43
  | 44, _, _ => exact wd_mem cw_44
  | 45, _, _ => exact wd_mem cw_45
  | 46, _, _ => exact wd_mem cw_46
  | 47, _, _ => exact wd_mem cw_47
  | 48, _, _ => exact wd_mem cw_48
  | 49, _, _ => exact wd_mem cw_49
  | 50, _, _ => exact wd_mem cw_50
  | 51, _, _ => exact wd_mem cw_51
  | 52, _, _ => exact wd_mem cw_52
  | 53, _, _ => exact wd_mem cw_53
  | 54, _, _ => exact wd_mem cw_54
  | 55, _, _ => exact wd_mem cw_55
  | 56, _, _ => exact wd_mem cw_56
  | 57, _, _ => exact wd_mem cw_57
  | 58, _, _ => exact wd_mem cw_58
  | 59, _, _ => exact wd_mem cw_59
  | 60, _, _ => exact wd_mem cw_60
  | 61, _, _ => exact wd_mem cw_61
  | 62, _, _ => exact wd_mem cw_62
  | 63, _, _ => exact wd_mem cw_63
  | 64, _, _ => exact wd_mem cw_64
  | 65, _, _ => exact wd_mem cw_65
  | 66, _, _ => exact wd_mem cw_66
  | 67, _, _ => exact wd_mem cw_67
  | 68, _, _ => exact wd_mem cw_68
  | 69, _, _ => exact wd_mem cw_69
  | 70, _, _ => exact wd_mem cw_70
  | 71, _, _ => exact wd_mem cw_71
  | 72, _, _ => exact wd_mem cw_72
  | 73, _, _ => exact wd_mem cw_73
  | 74, _, _ => exact wd_mem cw_74
  | 75, _, _ => exact wd_mem cw_75
  | 76, _, _ => exact wd_mem cw_76
  | 77, _, _ => exact wd_mem cw_77
  | 78, _, _ => exact wd_mem cw_78
  | 79, _, _ => exact wd_mem cw_79
  | 80, _, _ => exact wd_mem cw_80
  | 81, _, _ => exact wd_mem cw_81
  | 82, _, _ => exact wd_mem cw_82
  | 83, _, _ => exact wd_mem cw_83
  | 84, _, _ => exact wd_mem cw_84
  | 85, _, _ => exact wd_mem cw_85
  | 86, _, _ => exact wd_mem cw_86
  | 87, _, _ => exact wd_mem cw_87
  | 88, _, _ => exact wd_mem cw_88
  | 89, _, _ => exact wd_mem cw_89
  | 90, _, _ => exact wd_mem cw_90
  | 91, _, _ => exact wd_mem cw_91
  | 92, _, _ => exact wd_mem cw_92
  | 93, _, _ => exact wd_mem cw_93
  | 94, _, _ => exact wd_mem cw_94
  | 95, _, _ => exact wd_mem cw_95
  | 96, _, _ => exact wd_mem cw_96
  | 97, _, _ => exact wd_mem cw_97
  | 98, _, _ => exact wd_mem cw_98
  | 99, _, _ => exact wd_mem cw_99
  | 100, _, _ => exact wd_mem cw_100
  | 101, _, _ => exact wd_mem cw_101
  | 102, _, _ => exact wd_mem cw_102
  | 103, _, _ => exact wd_mem cw_103
  | 104, _, _ => exact wd_mem cw_104
  | 105, _, _ => exact wd_mem cw_105
  | 106, _, _ => exact wd_mem cw_106
  | 107, _, _ => exact wd_mem cw_107
  | 108, _, _ => exact wd_mem cw_108
  | 109, _, _ => exact wd_mem cw_109
  | 110, _, _ => exact wd_mem cw_110
  | 111, _, _ => exact wd_mem cw_111
  | 112, _, _ => exact wd_mem cw_112
  | 113, _, _ => exact wd_mem cw_113
  | 114, _, _ => exact wd_mem cw_114
  | 115, _, _ => exact wd_mem cw_115
  | 116, _, _ => exact wd_mem cw_116
  | 117, _, _ => exact wd_mem cw_117
  | 118, _, _ => exact wd_mem cw_118
  | 119, _, _ => exact wd_mem cw_119
  | 120, _, _ => exact wd_mem cw_120
  | 121, _, _ => exact wd_mem cw_121
  | 122, _, _ => exact wd_mem cw_122
  | 123, _, _ => exact wd_mem cw_123
  | 124, _, _ => exact wd_mem cw_124
  | 125, _, _ => exact wd_mem cw_125
  | 126, _, _ => exact wd_mem cw_126
  | 127, _, _ => exact wd_mem cw_127
  | 128, _, _ => exact wd_mem cw_128
  | 129, _, _ => exact wd_mem cw_129
  | 130, _, _ => exact wd_mem cw_130
  | 131, _, _ => exact wd_mem cw_131
  | 132, _, _ => exact wd_mem cw_132
  | 133, _, _ => exact wd_mem cw_133
  | 134, _, _ => exact wd_mem cw_134
  | 135, _, _ => exact wd_mem cw_135
  | 136, _, _ => exact wd_mem cw_136
  | 137, _, _ => exact wd_mem cw_137
  | 138, _, _ => exact wd_mem cw_138
  | 139, _, _ => exact wd_mem cw_139
  | 140, _, _ => exact wd_mem cw_140
  | 141, _, _ => exact wd_mem cw_141
  | 142, _, _ => exact wd_mem cw_142
  | 143, _, _ => exact wd_mem cw_143
  | 144, _, _ => exact wd_mem cw_144
  | 145, _, _ => exact wd_mem cw_145
  | 146, _, _ => exact wd_mem cw_146
  | 147, _, _ => exact wd_mem cw_147
  | 148, _, _ => exact wd_mem cw_148
  | 149, _, _ => exact wd_mem cw_149
  | 150, _, _ => exact wd_mem cw_150
  | 151, _, _ => exact wd_mem cw_151
  | 152, _, _ => exact wd_mem cw_152
  | 153, _, _ => exact wd_mem cw_153
  | 154, _, _ => exact wd_mem cw_154
  | 155, _, _ => exact wd_mem cw_155
  | 156, _, _ => exact wd_mem cw_156
  | 157, _, _ => exact wd_mem cw_157
  | 158, _, _ => exact wd_mem cw_158
  | 159, _, _ => exact wd_mem cw_159
  | 160, _, _ => exact wd_mem cw_160
  | 161, _, _ => exact wd_mem cw_161
  | 162, _, _ => exact wd_mem cw_162
  | 163, _, _ => exact wd_mem cw_163
  | 164, _, _ => exact wd_mem cw_164
  | 165, _, _ => exact wd_mem cw_165
  | 166, _, _ => exact wd_mem cw_166
  | 167, _, _ => exact wd_mem cw_167
  | 168, _, _ => exact wd_mem cw_168
  | 169, _, _ => exact wd_mem cw_169
  | 170, _, _ => exact wd_mem cw_170
  | 171, _, _ => exact wd_mem cw_171
  | 172, _, _ => exact wd_mem cw_172
  | 173, _, _ => exact wd_mem cw_173
  | 174, _, _ => exact wd_mem cw_174
  | 175, _, _ => exact wd_mem cw_175
  | 176, _, _ => exact wd_mem cw_176
  | 177, _, _ => exact wd_mem cw_177
  | 178, _, _ => exact wd_mem cw_178
  | 179, _, _ => exact wd_mem cw_179
  | 180, _, _ => exact wd_mem cw_180
  | 181, _, _ => exact wd_mem cw_181
  | 182, _, _ => exact wd_mem cw_182
  | 183, _, _ => exact wd_mem cw_183
  | 184, _, _ => exact wd_mem cw_184
  | 185, _, _ => exact wd_mem cw_185
  | 186, _, _ => exact wd_mem cw_186
  | 187, _, _ => exact wd_mem cw_187
  | 188, _, _ => exact wd_mem cw_188
  | 189, _, _ => exact wd_mem cw_189
  | 190, _, _ => exact wd_mem cw_190
  | 191, _, _ => exact wd_mem cw_191
  | 192, _, _ => exact wd_mem cw_192
  | 193, _, _ => exact wd_mem cw_193
  | 194, _, _ => exact wd_mem cw_194
  | 195, _, _ => exact wd_mem cw_195
  | 196, _, _ => exact wd_mem cw_196
  | 197, _, _ => exact wd_mem cw_197
  | 198, _, _ => exact wd_mem cw_198
  | 199, _, _ => exact wd_mem cw_199
  | 200, _, _ => exact wd_mem cw_200
  | 201, _, _ => exact wd_mem cw_201
  | 202, _, _ => exact wd_mem cw_202
  | 203, _, _ => exact wd_mem cw_203
  | 204, _, _ => exact wd_mem cw_204
  | 205, _, _ => exact wd_mem cw_205
  | 206, _, _ => exact wd_mem cw_206
  | 207, _, _ => exact wd_mem cw_207
  | 208, _, _ => exact wd_mem cw_208
  | 209, _, _ => exact wd_mem cw_209
  | 210, _, _ => exact wd_mem cw_210
  | 211, _, _ => exact wd_mem cw_211
  | 212, _, _ => exact wd_mem cw_212
  | 213, _, _ => exact wd_mem cw_213
  | 214, _, _ => exact wd_mem cw_214
  | 215, _, _ => exact wd_mem cw_215
  | 216, _, _ => exact wd_mem cw_216
  | 217, _, _ => exact wd_mem cw_217
  | 218, _, _ => exact wd_mem cw_218
  | 219, _, _ => exact wd_mem cw_219
  | 220, _, _ => exact wd_mem cw_220
  | 221, _, _ => exact wd_mem cw_221
  | 222, _, _ => exact wd_mem cw_222
  | 223, _, _ => exact wd_mem cw_223
  | 224, _, _ => exact wd_mem cw_224
  | 225, _, _ => exact wd_mem cw_225
  | 226, _, _ => exact wd_mem cw_226
  | 227, _, _ => exact wd_mem cw_227
  | 228, _, _ => exact wd_mem cw_228
  | 229, _, _ => exact wd_mem cw_229
  | 230, _, _ => exact wd_mem cw_230
  | 231, _, _ => exact wd_mem cw_231
  | 232, _, _ => exact wd_mem cw_232
  | 233, _, _ => exact wd_mem cw_233
  | 234, _, _ => exact wd_mem cw_234
  | 235, _, _ => exact wd_mem cw_235
  | 236, _, _ => exact wd_mem cw_236
  | 237, _, _ => exact wd_mem cw_237
  | 238, _, _ => exact wd_mem cw_238
  | 239, _, _ => exact wd_mem cw_239
  | 240, _, _ => exact wd_mem cw_240
  | 241, _, _ => exact wd_mem cw_241
  | 242, _, _ => exact wd_mem cw_242
  | 243, _, _ => exact wd_mem cw_243
  | 244, _, _ => exact wd_mem cw_244
  | 245, _, _ => exact wd_mem cw_245
  | 246, _, _ => exact wd_mem cw_246
  | 247, _, _ => exact wd_mem cw_247
  | 248, _, _ => exact wd_mem cw_248
  | 249, _, _ => exact wd_mem cw_249
  | 250, _, _ => exact wd_mem cw_250
  | 251, _, _ => exact wd_mem cw_251
  | 252, _, _ => exact wd_mem cw_252
  | 253, _, _ => exact wd_mem cw_253
  | 254, _, _ => exact wd_mem cw_254
  | 255, _, _ => exact wd_mem cw_255
  | 256, _, _ => exact wd_mem cw_256
  | 257, _, _ => exact wd_mem cw_257
  | 258, _, _ => exact wd_mem cw_258
  | 259, _, _ => exact wd_mem cw_259
  | 260, _, _ => exact wd_mem cw_260
  | 261, _, _ => exact wd_mem cw_261
  | 262, _, _ => exact wd_mem cw_262
  | 263, _, _ => exact wd_mem cw_263
  | 264, _, _ => exact wd_mem cw_264
  | 265, _, _ => exact wd_mem cw_265
  | 266, _, _ => exact wd_mem cw_266
  | 267, _, _ => exact wd_mem cw_267
  | 268, _, _ => exact wd_mem cw_268
  | 269, _, _ => exact wd_mem cw_269
  | 270, _, _ => exact wd_mem cw_270
  | 271, _, _ => exact wd_mem cw_271
  | 272, _, _ => exact wd_mem cw_272
  | 273, _, _ => exact wd_mem cw_273
  | 274, _, _ => exact wd_mem cw_274
  | 275, _, _ => exact wd_mem cw_275
  | 276, _, _ => exact wd_mem cw_276
  | 277, _, _ => exact wd_mem cw_277
  | 278, _, _ => exact wd_mem cw_278
  | 279, _, _ => exact wd_mem cw_279
  | 280, _, _ => exact wd_mem cw_280
  | 281, _, _ => exact wd_mem cw_281
  | 282, _, _ => exact wd_mem cw_282
  | 283, _, _ => exact wd_mem cw_283
  | 284, _, _ => exact wd_mem cw_284
  | 285, _, _ => exact wd_mem cw_285
  | 286, _, _ => exact wd_mem cw_286
  | 287, _, _ => exact wd_mem cw_287
  | 288, _, _ => exact wd_mem cw_288
  | 289, _, _ => exact wd_mem cw_289
  | 290, _, _ => exact wd_mem cw_290
  | 291, _, _ => exact wd_mem cw_291
  | 292, _, _ => exact wd_mem cw_292
  | 293, _, _ => exact wd_mem cw_293
  | 294, _, _ => exact wd_mem cw_294
  | 295, _, _ => exact wd_mem cw_295
  | 296, _, _ => exact wd_mem cw_296
  | 297, _, _ => exact wd_mem cw_297
  | 298, _, _ => exact wd_mem cw_298
  | 299, _, _ => exact wd_mem cw_299
  | 300, _, _ => exact wd_mem cw_300
  | 301, _, _ => exact wd_mem cw_301
  | 302, _, _ => exact wd_mem cw_302
  | 303, _, _ => exact wd_mem cw_303
  | 304, _, _ => exact wd_mem cw_304
  | 305, _, _ => exact wd_mem cw_305
  | 306, _, _ => exact wd_mem cw_306
  | 307, _, _ => exact wd_mem cw_307
  | 308, _, _ => exact wd_mem cw_308
  | 309, _, _ => exact wd_mem cw_309
  | 310, _, _ => exact wd_mem cw_310
  | 311, _, _ => exact wd_mem cw_311
  | 312, _, _ => exact wd_mem cw_312
  | 313, _, _ => exact wd_mem cw_313
  | n + 314, _, h => exact absurd h (by omega)
def mpL : List (Nat × Nat × Nat × Nat) := [(0, 0, 0, 0), (1027, 1001, 1026, 9999), (1035, 1002, 1034, 9999), (1041, 1003, 1040, 9999), (1130, 1004, 1129, 9999), (1171, 1005, 1170, 9999), (1211, 1006, 1210, 9999), (1217, 1007, 1216, 9999), (2002, 1009, 2001, 9999), (2078, 1010, 2077, 9999), (2084, 1011, 2083, 9999), (2176, 1001, 2174, 2175), (2180, 1001, 2179, 0), (2184, 1001, 2182, 2183), (2187, 1001, 2186, 9999), (2190, 1001, 2189, 9999), (2194, 1001, 2192, 2193), (2198, 1001, 2197, 1), (2202, 1001, 2200, 2201), (2206, 1001, 2205, 2), (2210, 1003, 2208, 2209), (2220, 1002, 2218, 2219), (2224, 1002, 2222, 2223), (2227, 1003, 2226, 9999), (2236, 1004, 2234, 2235), (3000, 1004, 2239, 3), (3006, 1004, 3005, 4), (3009, 1010, 3008, 9999), (3012, 1004, 3011, 9999), (3015, 1004, 3014, 9999), (3019, 1004, 3018, 5), (3023, 1003, 3021, 3022), (3030, 1002, 3028, 3029), (3034, 1002, 3033, 6), (3039, 1001, 3037, 3038), (3043, 1002, 3041, 3042), (3047, 1002, 3046, 7), (3054, 1001, 3052, 3053), (3058, 1001, 3057, 8), (3062, 1001, 3060, 3061), (3066, 1001, 3064, 3065), (3071, 1011, 3069, 3070), (3074, 1011, 3073, 9999), (3077, 1011, 3076, 9999), (3080, 1011, 3079, 9999), (3083, 1011, 3082, 9999), (3087, 1014, 3085, 3086), (3091, 1014, 3089, 3090), (3097, 1014, 3095, 3096), (3101, 1014, 3099, 3100), (3104, 1015, 3103, 9999), (3107, 1014, 3106, 9999), (3112, 1016, 3111, 9999), (3134, 1011, 3133, 9999), (3139, 1014, 3137, 3138), (3143, 1014, 3141, 3142), (3147, 1015, 3146, 9999), (3150, 1015, 3149, 9999), (3155, 1015, 3154, 9999), (3194, 1011, 3193, 9), (3198, 1010, 3196, 3197), (3202, 1011, 3200, 3201), (3206, 1011, 3204, 3205), (3212, 1011, 3210, 3211), (3216, 1010, 3215, 10), (3220, 1011, 3218, 3219), (3224, 1010, 3223, 11), (3228, 1010, 3227, 12), (3233, 1004, 3231, 3232), (3237, 1011, 3235, 3236), (4003, 1010, 4002, 13), (4007, 1010, 4006, 14), (4011, 1010, 4010, 15), (4015, 1010, 4014, 16), (4019, 1011, 4017, 4018), (4024, 1010, 4023, 17), (4028, 1010, 4027, 18), (4032, 1010, 4031, 19), (4037, 1010, 4036, 20), (4042, 1005, 4040, 4041), (4050, 1005, 4049, 21), (4054, 1005, 4053, 22), (4060, 1005, 4059, 23), (4064, 1005, 4063, 24), (4068, 1001, 4067, 25), (4072, 1004, 4070, 4071), (4077, 1005, 4075, 4076), (4082, 1003, 4080, 4081), (4087, 1001, 4085, 4086), (4091, 1001, 4089, 4090), (4095, 1003, 4093, 4094), (4099, 1001, 4098, 26), (4104, 1001, 4102, 4103), (4109, 1001, 4107, 4108), (4113, 1001, 4111, 4112), (4117, 1003, 4115, 4116), (4120, 1003, 4119, 9999), (4124, 1001, 4122, 4123), (4128, 1001, 4126, 4127), (4131, 1019, 4130, 9999), (4136, 1001, 4134, 4135), (4139, 1019, 4138, 9999), (4142, 1019, 4141, 9999), (4149, 1001, 4147, 4148), (4152, 1019, 4151, 9999), (4155, 1020, 4154, 9999), (4162, 1019, 4161, 9999), (4168, 1001, 4166, 4167), (4172, 1001, 4170, 4171), (4175, 1021, 4174, 9999), (4179, 1021, 4178, 9999), (4189, 1001, 4187, 4188), (4193, 1007, 4191, 4192), (4198, 1001, 4196, 4197), (4201, 1021, 4200, 9999), (4205, 1007, 4203, 4204), (4210, 1007, 4208, 4209), (4213, 1021, 4212, 9999), (4216, 1021, 4215, 9999), (4219, 1021, 4218, 9999), (4223, 1001, 4221, 4222), (4226, 1009, 4225, 9999), (4231, 1009, 4229, 4230), (4234, 1009, 4233, 9999), (4238, 1001, 4236, 4237), (5002, 1009, 5000, 5001), (5006, 1009, 5005, 27), (5009, 1009, 5008, 9999), (5013, 1009, 5011, 5012), (5017, 1009, 5016, 28), (5021, 1001, 5019, 5020), (5024, 1021, 5023, 9999), (5028, 1001, 5026, 5027), (5031, 1021, 5030, 9999), (5035, 1021, 5034, 9999), (5039, 1001, 5037, 5038), (5043, 1001, 5041, 5042), (5046, 1021, 5045, 9999), (5049, 1021, 5048, 9999), (5053, 1021, 5052, 9999), (5056, 1021, 5055, 9999), (5059, 1021, 5058, 9999), (5063, 1001, 5061, 5062), (5067, 1001, 5065, 5066), (5070, 1021, 5069, 9999), (5073, 1021, 5072, 9999), (5077, 1001, 5075, 5076), (5081, 1006, 5079, 5080), (5086, 1001, 5084, 5085), (5090, 1001, 5088, 5089), (5093, 1019, 5092, 9999), (5096, 1019, 5095, 9999), (5100, 1001, 5098, 5099), (5103, 1019, 5102, 9999), (5108, 1001, 5106, 5107), (5111, 1021, 5110, 9999), (5115, 1001, 5113, 5114), (5118, 1021, 5117, 9999), (5122, 1001, 5120, 5121), (5126, 1001, 5124, 5125), (5130, 1007, 5128, 5129), (5134, 1007, 5132, 5133), (5138, 1001, 5136, 5137), (5141, 1019, 5140, 9999), (5144, 1019, 5143, 9999), (5147, 1019, 5146, 9999), (5150, 1022, 5149, 9999), (5156, 1019, 5155, 9999), (5159, 1019, 5158, 9999), (5162, 1019, 5161, 9999), (5167, 1001, 5165, 5166), (5171, 1001, 5169, 5170), (5175, 1002, 5173, 5174), (5182, 1006, 5180, 5181), (5187, 1007, 5185, 5186), (5193, 1009, 5191, 5192), (5199, 1001, 5197, 5198), (5205, 1012, 5204, 9999), (6178, 1012, 6176, 6177), (6182, 1012, 6180, 6181), (6186, 1012, 6184, 6185), (6190, 1012, 6189, 29), (6194, 1012, 6193, 30), (6198, 1012, 6196, 6197), (6202, 1012, 6201, 31), (6206, 1012, 6204, 6205), (6210, 1012, 6209, 32), (6214, 1012, 6212, 6213), (6218, 1012, 6216, 6217), (6222, 1012, 6221, 33), (6226, 1012, 6225, 34), (6230, 1012, 6229, 35), (6234, 1012, 6233, 36), (6238, 1012, 6237, 37), (7002, 1012, 7001, 38), (7006, 1012, 7005, 39), (7010, 1012, 7009, 40), (7014, 1012, 7013, 41), (7018, 1012, 7017, 42), (7022, 1012, 7021, 43), (7026, 1012, 7025, 44), (7030, 1012, 7029, 45), (7034, 1012, 7033, 46), (7038, 1012, 7037, 47), (7042, 1012, 7041, 48), (7046, 1012, 7045, 49), (7050, 1012, 7049, 50), (7054, 1012, 7053, 51), (7058, 1012, 7057, 52), (7062, 1012, 7061, 53), (7066, 1012, 7065, 54), (7070, 1012, 7069, 55), (7074, 1012, 7073, 56), (7078, 1012, 7077, 57), (7082, 1012, 7081, 58), (7086, 1012, 7085, 59), (7090, 1012, 7089, 60), (7094, 1012, 7093, 61), (7098, 1012, 7097, 62), (7102, 1012, 7101, 63), (7106, 1012, 7105, 64), (7110, 1012, 7109, 65), (7114, 1012, 7113, 66), (7118, 1012, 7116, 7117), (7122, 1012, 7120, 7121), (7126, 1012, 7125, 67), (7130, 1012, 7129, 68), (7134, 1012, 7133, 69), (7138, 1012, 7137, 70), (7142, 1012, 7141, 71), (7146, 1012, 7145, 72), (7150, 1012, 7149, 73), (7154, 1012, 7153, 74), (7158, 1012, 7157, 75), (7162, 1012, 7161, 76), (7166, 1012, 7165, 77), (7170, 1012, 7169, 78), (7174, 1012, 7173, 79), (7178, 1012, 7177, 80), (7182, 1012, 7181, 81), (7186, 1012, 7185, 82), (7190, 1012, 7189, 83), (7196, 1012, 7195, 84), (7200, 1012, 7199, 85), (7204, 1012, 7203, 86), (7208, 1012, 7206, 7207), (7212, 1012, 7211, 87), (7216, 1012, 7215, 88), (7220, 1012, 7219, 89), (7224, 1012, 7223, 90), (7228, 1012, 7226, 7227), (7232, 1012, 7231, 91), (7236, 1012, 7234, 7235), (8000, 1012, 7238, 7239), (8004, 1012, 8002, 8003), (8008, 1012, 8007, 92), (8012, 1012, 8011, 93), (8016, 1012, 8015, 94), (8020, 1012, 8019, 95), (8024, 1012, 8022, 8023), (8028, 1012, 8026, 8027), (8032, 1012, 8030, 8031), (8036, 1012, 8035, 96), (8040, 1012, 8039, 97), (8044, 1012, 8042, 8043), (8048, 1012, 8047, 98), (8052, 1012, 8051, 99), (8056, 1012, 8055, 100), (8061, 1012, 8059, 8060), (8065, 1012, 8063, 8064), (8069, 1012, 8068, 101), (8073, 1012, 8072, 102), (8077, 1012, 8075, 8076), (8081, 1012, 8079, 8080), (8085, 1012, 8084, 103), (8089, 1012, 8087, 8088), (8093, 1012, 8091, 8092), (8097, 1012, 8096, 104), (8101, 1012, 8100, 105), (8105, 1012, 8104, 106), (8109, 1012, 8108, 107), (8113, 1012, 8112, 108), (8117, 1012, 8115, 8116), (8121, 1012, 8120, 109), (8125, 1012, 8124, 110), (8129, 1012, 8127, 8128), (8133, 1012, 8131, 8132), (8137, 1012, 8135, 8136), (8141, 1012, 8140, 111), (8145, 1012, 8144, 112), (8149, 1012, 8148, 113), (8153, 1012, 8151, 8152), (8157, 1012, 8155, 8156), (8161, 1012, 8160, 114), (8165, 1012, 8163, 8164), (8169, 1012, 8167, 8168), (8173, 1012, 8171, 8172), (8177, 1012, 8176, 115), (8181, 1012, 8179, 8180), (8185, 1012, 8183, 8184), (8189, 1012, 8188, 116), (8193, 1012, 8191, 8192), (8197, 1012, 8195, 8196), (8201, 1012, 8199, 8200), (8205, 1012, 8203, 8204), (8210, 1012, 8209, 117), (8214, 1012, 8213, 118), (8218, 1012, 8217, 119), (8222, 1012, 8221, 120), (8226, 1012, 8224, 8225), (8230, 1012, 8229, 121), (8234, 1012, 8233, 122), (8238, 1012, 8237, 123), (9002, 1012, 9000, 9001)]
def mp (j : Nat) : Nat × Nat × Nat × Nat := mpL.getD j (0, 0, 0, 0)
/-- what the words say of method j -/
def mOk (j : Nat) : Prop := wd (mp j).2.1 = some (Cond.initialized (yn j).cls) ∧ (if mS j = true then wd (mp j).2.2.1 = some (Cond.static (yn j)) else wd (mp j).2.2.1 = some (Cond.instanceMethod (yn j)) ∧ ((yn j).name = "<init>" ∨ wd (mp j).2.2.2 = some (Cond.selects (yn j).cls (yn j) (yn j)))) ∧ ((yn j).cls ≠ "java/lang/invoke/MethodHandle" ∧ (yn j).cls ≠ "java/lang/invoke/VarHandle") ∧ plainName (yn j).cls = true ∧ on (ow j) = (yn j).cls ∧ ml j ≤ 20
set_option maxRecDepth 100000 in
theorem mOk_1 : ∀ i, i < 40 → mOk (1 + i) := by unfold mOk; decide +kernel
set_option maxRecDepth 100000 in
theorem mOk_41 : ∀ i, i < 40 → mOk (41 + i) := by unfold mOk; decide +kernel
set_option maxRecDepth 100000 in
theorem mOk_81 : ∀ i, i < 40 → mOk (81 + i) := by unfold mOk; decide +kernel
set_option maxRecDepth 100000 in
theorem mOk_121 : ∀ i, i < 40 → mOk (121 + i) := by unfold mOk; decide +kernel
set_option maxRecDepth 100000 in
theorem mOk_161 : ∀ i, i < 40 → mOk (161 + i) := by unfold mOk; decide +kernel
set_option maxRecDepth 100000 in
theorem mOk_201 : ∀ i, i < 40 → mOk (201 + i) := by unfold mOk; decide +kernel
set_option maxRecDepth 100000 in
theorem mOk_241 : ∀ i, i < 40 → mOk (241 + i) := by unfold mOk; decide +kernel
set_option maxRecDepth 100000 in
theorem mOk_281 : ∀ i, i < 33 → mOk (281 + i) := by unfold mOk; decide +kernel
theorem mOk_all (j : Nat) (h0 : 0 < j) (h : j < 314) : mOk j := by
  by_cases h1 : j < 41
  · have := mOk_1 (j - 1) (by omega)
    rwa [show 1 + (j - 1) = j by omega] at this
  by_cases h41 : j < 81
  · have := mOk_41 (j - 41) (by omega)
    rwa [show 41 + (j - 41) = j by omega] at this
  by_cases h81 : j < 121
  · have := mOk_81 (j - 81) (by omega)
    rwa [show 81 + (j - 81) = j by omega] at this
  by_cases h121 : j < 161
  · have := mOk_121 (j - 121) (by omega)
    rwa [show 121 + (j - 121) = j by omega] at this
  by_cases h161 : j < 201
  · have := mOk_161 (j - 161) (by omega)
    rwa [show 161 + (j - 161) = j by omega] at this
  by_cases h201 : j < 241
  · have := mOk_201 (j - 201) (by omega)
    rwa [show 201 + (j - 201) = j by omega] at this
  by_cases h241 : j < 281
  · have := mOk_241 (j - 241) (by omega)
    rwa [show 241 + (j - 241) = j by omega] at this
  by_cases h281 : j < 314
  · have := mOk_281 (j - 281) (by omega)
    rwa [show 281 + (j - 281) = j by omega] at this
  omega
def tMp : List (Nat × Nat × Nat × Nat × Nat × Nat) := [(13, 9, 4, 1, 1002, 1025), (13, 12, 4, 177, 11002, 5203), (13, 13, 2, 11, 1005, 2173), (13, 17, 2, 179, 11005, 6179), (13, 18, 2, 13, 1009, 2181), (13, 22, 2, 180, 11009, 6183), (13, 23, 2, 16, 1009, 2191), (13, 27, 2, 183, 11009, 6195), (13, 28, 2, 18, 1007, 2199), (13, 32, 2, 224, 11007, 7119), (13, 33, 2, 34, 1005, 3036), (13, 36, 2, 245, 11005, 7205), (13, 37, 2, 37, 1013, 3051), (13, 42, 2, 39, 1005, 3059), (13, 46, 2, 187, 11005, 6211), (13, 47, 2, 40, 1005, 3063), (13, 50, 2, 188, 11005, 6215), (13, 51, 2, 88, 1005, 4084), (13, 54, 2, 223, 11005, 7115), (13, 55, 2, 89, 1009, 4088), (13, 58, 2, 250, 11009, 7225), (13, 59, 2, 92, 1007, 4101), (13, 63, 2, 252, 11007, 7233), (13, 64, 2, 93, 1007, 4106), (13, 67, 2, 253, 11007, 7237), (13, 68, 2, 94, 1007, 4110), (13, 71, 2, 254, 11007, 8001), (13, 72, 2, 97, 1009, 4121), (13, 75, 2, 259, 11009, 8021), (13, 76, 2, 98, 1005, 4125), (13, 79, 2, 260, 11005, 8025), (13, 80, 2, 100, 1005, 4133), (13, 83, 2, 261, 11005, 8029), (13, 84, 2, 103, 1005, 4146), (13, 87, 2, 264, 11005, 8041), (13, 88, 2, 107, 1007, 4165), (13, 91, 2, 268, 11007, 8058), (13, 92, 2, 108, 1007, 4169), (13, 95, 2, 269, 11007, 8062), (13, 96, 2, 111, 1005, 4186), (13, 99, 2, 272, 11005, 8074), (13, 100, 2, 113, 1007, 4195), (13, 103, 2, 273, 11007, 8078), (13, 104, 2, 120, 1009, 4220), (13, 107, 2, 275, 11009, 8086), (13, 108, 2, 124, 1005, 4235), (13, 111, 2, 276, 11005, 8090), (13, 112, 2, 130, 1009, 5018), (13, 115, 2, 282, 11009, 8114), (13, 116, 2, 132, 1011, 5025), (13, 121, 2, 135, 1005, 5036), (13, 124, 2, 286, 11005, 8130), (13, 125, 2, 136, 1005, 5040), (13, 128, 2, 287, 11005, 8134), (13, 129, 2, 142, 1005, 5060), (13, 132, 2, 291, 11005, 8150), (13, 133, 2, 143, 1005, 5064), (13, 136, 2, 292, 11005, 8154), (13, 137, 2, 146, 1009, 5074), (13, 140, 2, 294, 11009, 8162), (13, 141, 2, 148, 1005, 5083), (13, 144, 2, 295, 11005, 8166), (13, 145, 2, 149, 1009, 5087), (13, 148, 2, 298, 11009, 8178), (13, 149, 2, 152, 1011, 5097), (13, 153, 2, 154, 1007, 5105), (13, 156, 2, 299, 11007, 8182), (13, 157, 2, 156, 1007, 5112), (13, 160, 2, 301, 11007, 8190), (13, 161, 2, 158, 1005, 5119), (13, 164, 2, 302, 11005, 8194), (13, 165, 2, 159, 1005, 5123), (13, 168, 2, 303, 11005, 8198), (13, 169, 2, 162, 1005, 5135), (13, 172, 2, 304, 11005, 8202), (13, 173, 2, 170, 1003, 5164), (13, 177, 2, 178, 11003, 6175), (13, 178, 2, 171, 1005, 5168), (13, 182, 2, 309, 11005, 8223), (13, 183, 2, 176, 1005, 5196), (13, 186, 2, 313, 11005, 8239), (13, 41, 2, 185, 11013, 6203), (13, 120, 2, 285, 11011, 8126), (13, 152, 2, 296, 11011, 8170), (0, 3, 0, 0, 0, 1028), (0, 11, 7, 2, 2002, 0), (0, 21, 4, 3, 7004, 2072), (0, 38, 7, 9, 9002, 0), (0, 45, 7, 5, 4002, 0), (1, 3, 0, 0, 0, 1036), (1, 11, 4, 3, 7004, 1039), (1, 22, 7, 4, 3002, 0), (1, 29, 7, 5, 4002, 0), (1, 39, 7, 6, 5002, 0), (6, 3, 0, 0, 0, 1042), (2, 3, 0, 0, 0, 1131), (3, 5, 0, 0, 0, 1172), (4, 3, 0, 0, 0, 1212), (4, 17, 4, 7, 6008, 1215), (4, 35, 4, 8, 8002, 2000), (5, 3, 0, 0, 0, 1218), (5, 9, 10, 0, 0, 1219), (7, 3, 0, 0, 0, 2003), (8, 5, 0, 0, 0, 2079), (8, 11, 7, 10, 10002, 0), (8, 20, 7, 4, 3002, 0), (9, 5, 0, 0, 0, 2085), (0, 60, 2, 12, 1002, 2177), (0, 63, 3, 14, 7, 2185), (0, 67, 3, 15, 5, 2188), (0, 90, 2, 17, 1005, 2195), (0, 97, 2, 19, 1002, 2203), (0, 100, 2, 21, 2007, 2217), (0, 104, 2, 32, 2007, 3035), (0, 179, 2, 20, 7004, 2207), (0, 288, 11, 0, 0, 2214), (6, 40, 1, 0, 0, 2211), (1, 134, 2, 22, 2007, 2221), (1, 137, 3, 23, 5, 2225), (1, 142, 2, 24, 3011, 2233), (1, 146, 2, 31, 7005, 3020), (1, 150, 2, 32, 2007, 3027), (6, 71, 6, 15, 5, 0), (2, 46, 2, 25, 3008, 2237), (2, 50, 2, 26, 3007, 3003), (2, 54, 3, 29, 5, 3013), (2, 57, 2, 30, 3005, 3016), (2, 84, 11, 0, 0, 3001), (2, 89, 10, 0, 0, 3002), (2, 95, 3, 27, 3, 3007), (2, 103, 3, 28, 7, 3010), (6, 77, 10, 0, 0, 3026), (1, 109, 2, 33, 2010, 3031), (0, 110, 2, 35, 2005, 3040), (1, 93, 2, 36, 2007, 3044), (1, 116, 2, 21, 2007, 3048), (1, 122, 11, 0, 0, 3049), (1, 128, 10, 0, 0, 3050), (0, 117, 2, 38, 1004, 3055), (0, 130, 2, 41, 10008, 3068), (0, 136, 2, 60, 9002, 3195), (0, 141, 2, 79, 4008, 4039), (0, 150, 2, 84, 1005, 4065), (9, 31, 3, 42, 7, 3072), (9, 35, 3, 44, 9, 3078), (9, 39, 2, 59, 10006, 3191), (9, 43, 3, 43, 3, 3075), (9, 47, 3, 45, 9, 3081), (9, 53, 2, 54, 51005, 3136), (9, 59, 2, 46, 51003, 3084), (9, 63, 2, 48, 51005, 3094), (9, 67, 3, 53, 13, 3132), (14, 335, 2, 47, 51003, 3088), (14, 492, 2, 49, 51003, 3098), (14, 495, 3, 50, 5, 3102), (15, 9, 3, 51, 4, 3105), (14, 1059, 3, 52, 7, 3110), (14, 633, 2, 55, 51007, 3140), (14, 505, 2, 46, 51003, 3144), (14, 637, 3, 56, 9, 3145), (15, 88, 3, 57, 3, 3148), (15, 92, 10, 0, 0, 3151), (15, 38, 11, 0, 0, 3152), (15, 95, 3, 58, 9, 3153), (8, 36, 2, 61, 10003, 3199), (8, 40, 2, 62, 10003, 3207), (8, 44, 6, 14, 7, 0), (8, 48, 2, 63, 10004, 3209), (8, 52, 2, 64, 9006, 3213), (9, 71, 2, 62, 10003, 3203), (8, 56, 2, 65, 10005, 3217), (8, 66, 2, 66, 9002, 3221), (8, 72, 2, 70, 9002, 4000), (8, 78, 2, 74, 10004, 4016), (8, 81, 2, 67, 9002, 3225), (8, 84, 2, 68, 3004, 3230), (8, 87, 2, 69, 10007, 3234), (8, 91, 3, 27, 3, 3229), (9, 78, 2, 63, 10004, 3238), (9, 82, 6, 14, 7, 0), (8, 103, 2, 71, 9002, 4004), (8, 106, 2, 73, 9003, 4012), (8, 109, 2, 75, 9002, 4021), (8, 112, 2, 78, 9003, 4034), (8, 115, 2, 77, 9006, 4029), (8, 118, 2, 72, 9004, 4008), (9, 74, 2, 65, 10005, 4020), (8, 121, 2, 76, 9002, 4025), (8, 124, 10, 0, 0, 4033), (3, 42, 2, 61, 10003, 4043), (3, 46, 2, 62, 10003, 4044), (3, 50, 2, 63, 10004, 4045), (3, 54, 2, 65, 10005, 4046), (3, 58, 2, 80, 4010, 4047), (3, 62, 2, 74, 10004, 4056), (3, 65, 2, 81, 4008, 4051), (3, 69, 2, 82, 4006, 4057), (3, 73, 2, 83, 4006, 4061), (3, 76, 2, 69, 10007, 4055), (0, 360, 2, 85, 3004, 4069), (0, 363, 2, 86, 4004, 4074), (0, 366, 2, 87, 7004, 4079), (2, 37, 1, 0, 0, 4073), (3, 32, 1, 0, 0, 4078), (0, 163, 2, 90, 7005, 4092), (0, 166, 2, 91, 1007, 4096), (0, 369, 2, 24, 3011, 4100), (0, 170, 2, 22, 2007, 4105), (0, 183, 2, 95, 7005, 4114), (0, 190, 3, 96, 3, 4118), (0, 193, 3, 99, 5, 4129), (12, 9, 10, 0, 0, 4132), (0, 199, 3, 101, 5, 4137), (12, 21, 3, 102, 5, 4140), (12, 31, 12, 0, 0, 4143), (0, 202, 3, 104, 5, 4150), (12, 35, 8, 105, 1, 4153), (12, 43, 8, 106, 2, 4160), (0, 214, 3, 109, 7, 4173), (11, 21, 8, 110, 2, 4177), (11, 9, 13, 0, 0, 4180), (11, 15, 14, 0, 0, 4183), (0, 224, 2, 112, 6005, 4190), (5, 31, 6, 14, 7, 0), (0, 229, 3, 114, 7, 4199), (11, 32, 2, 115, 6007, 4202), (11, 36, 10, 0, 0, 4206), (11, 38, 2, 116, 6003, 4207), (11, 42, 3, 117, 5, 4211), (11, 46, 3, 118, 7, 4214), (11, 54, 3, 119, 9, 4217), (0, 233, 3, 121, 3, 4224), (0, 242, 2, 122, 8008, 4228), (7, 16, 6, 14, 7, 0), (7, 20, 3, 123, 5, 4232), (0, 245, 2, 125, 8003, 4239), (0, 249, 2, 128, 8003, 5010), (7, 30, 2, 126, 8007, 5003), (7, 33, 3, 127, 5, 5007), (7, 37, 2, 129, 8005, 5014), (0, 252, 3, 131, 7, 5022), (0, 256, 3, 133, 3, 5029), (0, 259, 3, 134, 9, 5033), (11, 58, 6, 14, 7, 0), (0, 266, 3, 137, 3, 5044), (0, 270, 3, 139, 3, 5051), (0, 273, 3, 140, 7, 5054), (0, 279, 3, 141, 3, 5057), (11, 65, 3, 138, 5, 5047), (11, 62, 11, 0, 0, 5050), (0, 285, 3, 144, 3, 5068), (11, 68, 3, 145, 11, 5071), (0, 293, 2, 147, 5009, 5078), (4, 60, 6, 14, 7, 0), (0, 299, 3, 150, 7, 5091), (12, 51, 3, 151, 7, 5094), (0, 302, 3, 153, 9, 5101), (12, 55, 11, 0, 0, 5104), (0, 305, 3, 155, 5, 5109), (0, 308, 3, 157, 5, 5116), (0, 314, 2, 160, 6003, 5127), (0, 317, 2, 161, 6005, 5131), (0, 320, 3, 163, 3, 5139), (0, 323, 3, 164, 3, 5142), (12, 58, 3, 165, 3, 5145), (12, 61, 3, 166, 3, 5148), (12, 65, 3, 167, 4, 5154), (12, 69, 3, 168, 5, 5157), (12, 73, 3, 169, 7, 5160), (0, 332, 2, 172, 2004, 5172), (1, 48, 2, 20, 7004, 5176), (1, 52, 2, 85, 3004, 5177), (1, 55, 2, 86, 4004, 5178), (1, 58, 2, 173, 5004, 5179), (1, 65, 1, 0, 0, 5195), (4, 40, 1, 0, 0, 5183), (4, 46, 2, 174, 6004, 5184), (4, 50, 2, 175, 8004, 5190), (5, 35, 11, 0, 0, 5188), (5, 38, 1, 0, 0, 5189), (7, 24, 1, 0, 0, 5194), (10, 1, 0, 0, 0, 5206), (10, 156, 2, 181, 11009, 6187), (10, 160, 2, 182, 11007, 6191), (10, 164, 2, 184, 11005, 6199), (10, 171, 2, 186, 11004, 6207), (10, 315, 2, 189, 11005, 6219), (10, 318, 2, 220, 11004, 7103), (10, 321, 2, 221, 11006, 7107), (10, 222, 2, 190, 11002, 6223), (10, 288, 2, 196, 11003, 7007), (10, 291, 2, 205, 11003, 7043), (10, 294, 2, 207, 11003, 7051), (10, 297, 2, 209, 11003, 7059), (10, 178, 2, 191, 11005, 6227), (10, 190, 2, 192, 11005, 6231), (10, 193, 2, 193, 11007, 6235), (10, 197, 2, 194, 11005, 6239), (10, 200, 2, 195, 11005, 7003), (10, 244, 2, 197, 11005, 7011), (10, 215, 2, 198, 11005, 7015), (10, 279, 2, 199, 11005, 7019), (10, 269, 2, 200, 11009, 7023), (10, 273, 2, 202, 11003, 7031), (10, 266, 2, 201, 11007, 7027), (10, 276, 2, 203, 11005, 7035), (10, 229, 2, 204, 11005, 7039), (10, 282, 2, 206, 11005, 7047), (10, 285, 2, 208, 11005, 7055), (10, 256, 2, 210, 11003, 7063), (10, 235, 2, 211, 11003, 7067), (10, 260, 2, 216, 11003, 7087), (10, 232, 2, 212, 11003, 7071), (10, 218, 2, 215, 11006, 7083), (10, 225, 2, 213, 11003, 7075), (10, 212, 2, 214, 11005, 7079), (10, 247, 2, 217, 11004, 7091), (10, 250, 2, 218, 11003, 7095), (10, 253, 2, 219, 11004, 7099), (10, 306, 2, 222, 11004, 7111), (10, 377, 2, 225, 11007, 7123), (10, 380, 2, 226, 11002, 7127), (10, 383, 2, 227, 11005, 7131), (10, 374, 2, 242, 11005, 7193), (10, 365, 2, 228, 11005, 7135), (10, 343, 2, 229, 11005, 7139), (10, 346, 2, 230, 11005, 7143), (10, 352, 2, 238, 11005, 7175), (10, 368, 2, 239, 11007, 7179), (10, 371, 2, 240, 11005, 7183), (10, 349, 2, 231, 11007, 7147), (10, 336, 2, 232, 11006, 7151), (10, 339, 2, 234, 11011, 7159), (10, 330, 2, 233, 11009, 7155), (10, 333, 2, 235, 11005, 7163), (10, 327, 2, 236, 11009, 7167), (10, 324, 2, 237, 11009, 7171), (10, 362, 2, 241, 11005, 7187), (10, 359, 2, 244, 11007, 7201), (10, 355, 2, 243, 11008, 7197), (10, 395, 2, 246, 11003, 7209), (10, 392, 2, 247, 11005, 7213), (10, 386, 2, 248, 11007, 7217), (10, 389, 2, 249, 11007, 7221), (10, 398, 2, 251, 11005, 7229), (10, 401, 2, 255, 11002, 8005), (10, 404, 2, 256, 11007, 8009), (10, 407, 2, 257, 11003, 8013), (10, 410, 2, 258, 11002, 8017), (10, 413, 2, 262, 11005, 8033), (10, 140, 2, 263, 11005, 8037), (10, 420, 2, 265, 11003, 8045), (10, 423, 2, 267, 11002, 8053), (10, 417, 2, 266, 11007, 8049), (10, 426, 2, 270, 11007, 8066), (10, 429, 2, 271, 11007, 8070), (10, 435, 2, 274, 11007, 8082), (10, 447, 2, 277, 11003, 8094), (10, 450, 2, 281, 11002, 8110), (10, 444, 2, 278, 11003, 8098), (10, 441, 2, 279, 11007, 8102), (10, 438, 2, 280, 11007, 8106), (10, 456, 2, 283, 11004, 8118), (10, 453, 2, 284, 11009, 8122), (10, 465, 2, 288, 11003, 8138), (10, 468, 2, 290, 11005, 8146), (10, 462, 2, 289, 11007, 8142), (10, 474, 2, 293, 11003, 8158), (10, 480, 2, 297, 11011, 8174), (10, 483, 2, 300, 11007, 8186), (10, 493, 2, 305, 11004, 8207), (10, 496, 2, 306, 11003, 8211), (10, 499, 2, 307, 11003, 8215), (10, 489, 2, 308, 11007, 8219), (10, 508, 2, 310, 11005, 8227), (10, 514, 2, 311, 11002, 8231), (10, 517, 2, 312, 11002, 8235)]
def nwQ : List (String × Nat × MethodName × String) := [("GriefWood", 11, ⟨"GriefWood$Whole", "<init>", "()V"⟩, "GriefWood"), ("GriefWood", 38, ⟨"GriefWood$LawReader", "<init>", "()V"⟩, "GriefWood"), ("GriefWood", 45, ⟨"GriefWood$Lines", "<init>", "()V"⟩, "GriefWood"), ("GriefWood$Whole", 22, ⟨"GriefWood$Law", "<init>", "()V"⟩, "GriefWood"), ("GriefWood$Whole", 29, ⟨"GriefWood$Lines", "<init>", "()V"⟩, "GriefWood"), ("GriefWood$Whole", 39, ⟨"GriefWood$Told", "<init>", "()V"⟩, "GriefWood"), ("GriefWood$LawReader", 11, ⟨"GriefWood$Tokens", "<init>", "()V"⟩, "GriefWood"), ("GriefWood$LawReader", 20, ⟨"GriefWood$Law", "<init>", "()V"⟩, "GriefWood"), ("GriefWood$Scene", 71, ⟨"GriefWood", "isCell", "(II)Z"⟩, "GriefWood"), ("GriefWood$LawReader", 44, ⟨"GriefWood", "within", "(III)Z"⟩, "GriefWood"), ("GriefWood$Tokens", 82, ⟨"GriefWood", "within", "(III)Z"⟩, "GriefWood"), ("GriefWood$Row", 31, ⟨"GriefWood", "within", "(III)Z"⟩, "GriefWood"), ("GriefWood$Wishes", 16, ⟨"GriefWood", "within", "(III)Z"⟩, "GriefWood"), ("GriefWood$Thought", 58, ⟨"GriefWood", "within", "(III)Z"⟩, "GriefWood"), ("GriefWood$Told", 60, ⟨"GriefWood", "within", "(III)Z"⟩, "GriefWood")]
def nwP : List Nat := [1033, 2076, 2132, 1128, 1169, 1209, 2082, 2109, 2232, 3208, 3239, 4194, 4227, 5032, 5082]
set_option maxRecDepth 100000 in
theorem nwQ_ok : ∀ i, i < 15 → (nwQ[i]?.map fun q => Cond.methodLinkNest q.1 q.2.1 q.2.2.1 q.2.2.2) = wd (nwP.getD i 0) := by decide +kernel
def npar (j : Nat) : Option Nat := (parseMethodDescriptor (yn j).desc).map (fun d => d.parameters.length)
/-- what the words say of a call: kind 0 Object's constructor, 1 arraycopy, 2 virtual, 3 static, 4 a constructor, 6 static of a nest mate, 7 a nest mate's constructor, 8 static with longs -/
def cOk (e : Nat × Nat × Nat × Nat × Nat × Nat) : Prop := match e with
  | (o, i, kind, j, c, p) => if kind = 0 then wd p = some (Cond.methodLink (on o) i Lib.objectInit)
    else if kind = 1 then wd p = some (Cond.methodLink (on o) i arraycopyName)
    else if kind = 10 then wd p = some (Cond.methodLink (on o) i Lib.Math.max.name)
    else if kind = 11 then wd p = some (Cond.methodLink (on o) i Lib.Math.min.name)
    else if kind = 12 then wd p = some (Cond.methodLink (on o) i Lib.Math.abs.name)
    else if kind = 13 then wd p = some (Cond.methodLink (on o) i Lib.MathLoose.abs_long.x)
    else if kind = 14 then wd p = some (Cond.methodLink (on o) i Lib.MathLoose.max_long.x)
    else 0 < j ∧ j < 314 ∧ (if kind = 6 ∨ kind = 7 then ∃ q ∈ nwQ, q.1 = on o ∧ q.2.1 = i ∧ q.2.2.1 = yn j else wd p = some (Cond.methodLink (on o) i (yn j))) ∧
      (if kind = 8 then mS j = true ∧ npar j = some (c % 4) ∧ c < 4 ∧ 2 * c ≤ ml j ∧ rt j ≠ none
       else (c % 1000 / 2 ≤ ml j ∧ (c % 2 = 1 ↔ rt j ≠ none) ∧ (if kind = 3 ∨ kind = 6 then mS j = true ∧ c < 1000 ∧ npar j = some (c % 1000 / 2) else mS j = false ∧ 1 ≤ c % 1000 / 2 ∧ npar j = some (c % 1000 / 2 - 1) ∧ 1 ≤ c / 1000 ∧ (c / 1000 - 1 < 11 ∧ (yn j).cls = on (c / 1000 - 1) ∨ c / 1000 - 1 = 50 ∧ (yn j).cls = "java/lang/String") ∧ (if kind = 2 then (yn j).name ≠ "<init>" else (yn j).name = "<init>" ∧ rt j = none ∧ (kind = 4 ∨ kind = 7)))))
set_option maxRecDepth 100000 in
theorem cOk_0 : ∀ e ∈ (tMp.drop 0).take 60, cOk e := by unfold cOk; decide +kernel
set_option maxRecDepth 100000 in
theorem cOk_60 : ∀ e ∈ (tMp.drop 60).take 60, cOk e := by unfold cOk; decide +kernel
set_option maxRecDepth 100000 in
theorem cOk_120 : ∀ e ∈ (tMp.drop 120).take 60, cOk e := by unfold cOk; decide +kernel
set_option maxRecDepth 100000 in
theorem cOk_180 : ∀ e ∈ (tMp.drop 180).take 60, cOk e := by unfold cOk; decide +kernel
set_option maxRecDepth 100000 in
theorem cOk_240 : ∀ e ∈ (tMp.drop 240).take 60, cOk e := by unfold cOk; decide +kernel
set_option maxRecDepth 100000 in
theorem cOk_300 : ∀ e ∈ (tMp.drop 300).take 60, cOk e := by unfold cOk; decide +kernel
set_option maxRecDepth 100000 in
theorem cOk_360 : ∀ e ∈ (tMp.drop 360).take 17, cOk e := by unfold cOk; decide +kernel
set_option maxRecDepth 100000 in
theorem tMp_all : ∀ e ∈ tM, ∃ q ∈ tMp, (q.1, q.2.1, (q.2.2.1, q.2.2.2.1, q.2.2.2.2.1)) = e := by decide +kernel
set_option maxRecDepth 100000 in
theorem cOk_all : ∀ e ∈ tMp, cOk e := by
  intro e he
  obtain ⟨i, hi⟩ := List.getElem?_of_mem he
  have hl : i < 377 := (List.getElem?_eq_some_iff.mp hi).1
  by_cases h0 : i < 60
  · exact cOk_0 e (mem_at (i := i - 0) (by rw [List.getElem?_take_of_lt (by omega), List.getElem?_drop, show 0 + (i - 0) = i by omega]; exact hi))
  by_cases h60 : i < 120
  · exact cOk_60 e (mem_at (i := i - 60) (by rw [List.getElem?_take_of_lt (by omega), List.getElem?_drop, show 60 + (i - 60) = i by omega]; exact hi))
  by_cases h120 : i < 180
  · exact cOk_120 e (mem_at (i := i - 120) (by rw [List.getElem?_take_of_lt (by omega), List.getElem?_drop, show 120 + (i - 120) = i by omega]; exact hi))
  by_cases h180 : i < 240
  · exact cOk_180 e (mem_at (i := i - 180) (by rw [List.getElem?_take_of_lt (by omega), List.getElem?_drop, show 180 + (i - 180) = i by omega]; exact hi))
  by_cases h240 : i < 300
  · exact cOk_240 e (mem_at (i := i - 240) (by rw [List.getElem?_take_of_lt (by omega), List.getElem?_drop, show 240 + (i - 240) = i by omega]; exact hi))
  by_cases h300 : i < 360
  · exact cOk_300 e (mem_at (i := i - 300) (by rw [List.getElem?_take_of_lt (by omega), List.getElem?_drop, show 300 + (i - 300) = i by omega]; exact hi))
  by_cases h360 : i < 377
  · exact cOk_360 e (mem_at (i := i - 360) (by rw [List.getElem?_take_of_lt (by omega), List.getElem?_drop, show 360 + (i - 360) = i by omega]; exact hi))
  omega
