set_option maxRecDepth 100000 in
theorem okd_0 : kd_0.all (okE (mOwn 0) (mCd 0)) = true := by decide +kernel
set_option maxRecDepth 100000 in
theorem okd_1 : kd_1.all (okE (mOwn 1) (mCd 1)) = true := by decide +kernel
set_option maxRecDepth 100000 in
theorem okd_2 : kd_2.all (okE (mOwn 2) (mCd 2)) = true := by decide +kernel
set_option maxRecDepth 100000 in
theorem okd_3 : kd_3.all (okE (mOwn 3) (mCd 3)) = true := by decide +kernel
set_option maxRecDepth 100000 in
theorem okd_4 : kd_4.all (okE (mOwn 4) (mCd 4)) = true := by decide +kernel
set_option maxRecDepth 100000 in
theorem okd_5 : kd_5.all (okE (mOwn 5) (mCd 5)) = true := by decide +kernel
set_option maxRecDepth 100000 in
theorem okd_6 : kd_6.all (okE (mOwn 6) (mCd 6)) = true := by decide +kernel
set_option maxRecDepth 100000 in
theorem okd_7 : kd_7.all (okE (mOwn 7) (mCd 7)) = true := by decide +kernel
set_option maxRecDepth 100000 in
theorem okd_8 : kd_8.all (okE (mOwn 8) (mCd 8)) = true := by decide +kernel
set_option maxRecDepth 100000 in
theorem okd_9 : kd_9.all (okE (mOwn 9) (mCd 9)) = true := by decide +kernel
set_option maxRecDepth 100000 in
theorem okd_10 : kd_10.all (okE (mOwn 10) (mCd 10)) = true := by decide +kernel
set_option maxRecDepth 100000 in
theorem okd_11 : kd_11.all (okE (mOwn 11) (mCd 11)) = true := by decide +kernel
set_option maxRecDepth 100000 in
theorem okd_12 : kd_12.all (okE (mOwn 12) (mCd 12)) = true := by decide +kernel
set_option maxRecDepth 100000 in
theorem okd_13 : kd_13.all (okE (mOwn 13) (mCd 13)) = true := by decide +kernel
set_option maxRecDepth 100000 in
theorem okd_14 : kd_14.all (okE (mOwn 14) (mCd 14)) = true := by decide +kernel
set_option maxRecDepth 100000 in
theorem okd_15 : kd_15.all (okE (mOwn 15) (mCd 15)) = true := by decide +kernel
set_option maxRecDepth 100000 in
theorem okd_16 : kd_16.all (okE (mOwn 16) (mCd 16)) = true := by decide +kernel
set_option maxRecDepth 100000 in
theorem okd_17 : kd_17.all (okE (mOwn 17) (mCd 17)) = true := by decide +kernel
set_option maxRecDepth 100000 in
theorem okd_18 : kd_18.all (okE (mOwn 18) (mCd 18)) = true := by decide +kernel
set_option maxRecDepth 100000 in
theorem okd_19 : kd_19.all (okE (mOwn 19) (mCd 19)) = true := by decide +kernel
set_option maxRecDepth 100000 in
theorem okd_20 : kd_20.all (okE (mOwn 20) (mCd 20)) = true := by decide +kernel
set_option maxRecDepth 100000 in
theorem okd_21 : kd_21.all (okE (mOwn 21) (mCd 21)) = true := by decide +kernel
set_option maxRecDepth 100000 in
theorem okd_22 : kd_22.all (okE (mOwn 22) (mCd 22)) = true := by decide +kernel
set_option maxRecDepth 100000 in
theorem okd_23 : kd_23.all (okE (mOwn 23) (mCd 23)) = true := by decide +kernel
set_option maxRecDepth 100000 in
theorem okd_24 : kd_24.all (okE (mOwn 24) (mCd 24)) = true := by decide +kernel
set_option maxRecDepth 100000 in
theorem okd_25 : kd_25.all (okE (mOwn 25) (mCd 25)) = true := by decide +kernel
set_option maxRecDepth 100000 in
theorem okd_26 : kd_26.all (okE (mOwn 26) (mCd 26)) = true := by decide +kernel
set_option maxRecDepth 100000 in
theorem okd_27 : kd_27.all (okE (mOwn 27) (mCd 27)) = true := by decide +kernel
set_option maxRecDepth 100000 in
theorem okd_28 : kd_28.all (okE (mOwn 28) (mCd 28)) = true := by decide +kernel
set_option maxRecDepth 100000 in
theorem okd_29 : kd_29.all (okE (mOwn 29) (mCd 29)) = true := by decide +kernel
set_option maxRecDepth 100000 in
theorem okd_30 : kd_30.all (okE (mOwn 30) (mCd 30)) = true := by decide +kernel
set_option maxRecDepth 100000 in
theorem okd_31 : kd_31.all (okE (mOwn 31) (mCd 31)) = true := by decide +kernel
set_option maxRecDepth 100000 in
theorem okd_32 : kd_32.all (okE (mOwn 32) (mCd 32)) = true := by decide +kernel
set_option maxRecDepth 100000 in
theorem okd_33 : kd_33.all (okE (mOwn 33) (mCd 33)) = true := by decide +kernel
set_option maxRecDepth 100000 in
theorem okd_34 : kd_34.all (okE (mOwn 34) (mCd 34)) = true := by decide +kernel
set_option maxRecDepth 100000 in
theorem okd_35 : kd_35.all (okE (mOwn 35) (mCd 35)) = true := by decide +kernel
set_option maxRecDepth 100000 in
theorem okd_36 : kd_36.all (okE (mOwn 36) (mCd 36)) = true := by decide +kernel
set_option maxRecDepth 100000 in
theorem okd_37 : kd_37.all (okE (mOwn 37) (mCd 37)) = true := by decide +kernel
set_option maxRecDepth 100000 in
theorem okd_38 : kd_38.all (okE (mOwn 38) (mCd 38)) = true := by decide +kernel
set_option maxRecDepth 100000 in
theorem okd_39 : kd_39.all (okE (mOwn 39) (mCd 39)) = true := by decide +kernel
set_option maxRecDepth 100000 in
theorem okd_40 : kd_40.all (okE (mOwn 40) (mCd 40)) = true := by decide +kernel
set_option maxRecDepth 100000 in
theorem okd_41 : kd_41.all (okE (mOwn 41) (mCd 41)) = true := by decide +kernel
set_option maxRecDepth 100000 in
theorem okd_42 : kd_42.all (okE (mOwn 42) (mCd 42)) = true := by decide +kernel
set_option maxRecDepth 100000 in
theorem okd_43 : kd_43.all (okE (mOwn 43) (mCd 43)) = true := by decide +kernel
set_option maxRecDepth 100000 in
theorem okd_44 : kd_44.all (okE (mOwn 44) (mCd 44)) = true := by decide +kernel
set_option maxRecDepth 100000 in
theorem okd_45 : kd_45.all (okE (mOwn 45) (mCd 45)) = true := by decide +kernel
set_option maxRecDepth 100000 in
theorem okd_46 : kd_46.all (okE (mOwn 46) (mCd 46)) = true := by decide +kernel
set_option maxRecDepth 100000 in
theorem okd_47 : kd_47.all (okE (mOwn 47) (mCd 47)) = true := by decide +kernel
set_option maxRecDepth 100000 in
theorem okd_48 : kd_48.all (okE (mOwn 48) (mCd 48)) = true := by decide +kernel
set_option maxRecDepth 100000 in
theorem okd_49 : kd_49.all (okE (mOwn 49) (mCd 49)) = true := by decide +kernel
set_option maxRecDepth 100000 in
theorem okd_50 : kd_50.all (okE (mOwn 50) (mCd 50)) = true := by decide +kernel
set_option maxRecDepth 100000 in
theorem okd_51 : kd_51.all (okE (mOwn 51) (mCd 51)) = true := by decide +kernel
set_option maxRecDepth 100000 in
theorem okd_52 : kd_52.all (okE (mOwn 52) (mCd 52)) = true := by decide +kernel
set_option maxRecDepth 100000 in
theorem okd_53 : kd_53.all (okE (mOwn 53) (mCd 53)) = true := by decide +kernel
set_option maxRecDepth 100000 in
theorem okd_54 : kd_54.all (okE (mOwn 54) (mCd 54)) = true := by decide +kernel
set_option maxRecDepth 100000 in
theorem okd_55 : kd_55.all (okE (mOwn 55) (mCd 55)) = true := by decide +kernel
set_option maxRecDepth 100000 in
theorem okd_56 : kd_56.all (okE (mOwn 56) (mCd 56)) = true := by decide +kernel
set_option maxRecDepth 100000 in
theorem okd_57 : kd_57.all (okE (mOwn 57) (mCd 57)) = true := by decide +kernel
set_option maxRecDepth 100000 in
theorem okd_58 : kd_58.all (okE (mOwn 58) (mCd 58)) = true := by decide +kernel
set_option maxRecDepth 100000 in
theorem okd_59 : kd_59.all (okE (mOwn 59) (mCd 59)) = true := by decide +kernel
set_option maxRecDepth 100000 in
theorem okd_60 : kd_60.all (okE (mOwn 60) (mCd 60)) = true := by decide +kernel
set_option maxRecDepth 100000 in
theorem okd_61 : kd_61.all (okE (mOwn 61) (mCd 61)) = true := by decide +kernel
set_option maxRecDepth 100000 in
theorem okd_62 : kd_62.all (okE (mOwn 62) (mCd 62)) = true := by decide +kernel
set_option maxRecDepth 100000 in
theorem okd_63 : kd_63.all (okE (mOwn 63) (mCd 63)) = true := by decide +kernel
set_option maxRecDepth 100000 in
theorem okd_64 : kd_64.all (okE (mOwn 64) (mCd 64)) = true := by decide +kernel
set_option maxRecDepth 100000 in
theorem okd_65 : kd_65.all (okE (mOwn 65) (mCd 65)) = true := by decide +kernel
set_option maxRecDepth 100000 in
theorem okd_66 : kd_66.all (okE (mOwn 66) (mCd 66)) = true := by decide +kernel
set_option maxRecDepth 100000 in
theorem okd_67 : kd_67.all (okE (mOwn 67) (mCd 67)) = true := by decide +kernel
set_option maxRecDepth 100000 in
theorem okd_68 : kd_68.all (okE (mOwn 68) (mCd 68)) = true := by decide +kernel
set_option maxRecDepth 100000 in
theorem okd_69 : kd_69.all (okE (mOwn 69) (mCd 69)) = true := by decide +kernel
set_option maxRecDepth 100000 in
theorem okd_70 : kd_70.all (okE (mOwn 70) (mCd 70)) = true := by decide +kernel
set_option maxRecDepth 100000 in
theorem okd_71 : kd_71.all (okE (mOwn 71) (mCd 71)) = true := by decide +kernel
set_option maxRecDepth 100000 in
theorem okd_72 : kd_72.all (okE (mOwn 72) (mCd 72)) = true := by decide +kernel
set_option maxRecDepth 100000 in
theorem okd_73 : kd_73.all (okE (mOwn 73) (mCd 73)) = true := by decide +kernel
set_option maxRecDepth 100000 in
theorem okd_74 : kd_74.all (okE (mOwn 74) (mCd 74)) = true := by decide +kernel
set_option maxRecDepth 100000 in
theorem okd_75 : kd_75.all (okE (mOwn 75) (mCd 75)) = true := by decide +kernel
set_option maxRecDepth 100000 in
theorem okd_76 : kd_76.all (okE (mOwn 76) (mCd 76)) = true := by decide +kernel
set_option maxRecDepth 100000 in
theorem okd_77 : kd_77.all (okE (mOwn 77) (mCd 77)) = true := by decide +kernel
set_option maxRecDepth 100000 in
theorem okd_78 : kd_78.all (okE (mOwn 78) (mCd 78)) = true := by decide +kernel
set_option maxRecDepth 100000 in
theorem okd_79 : kd_79.all (okE (mOwn 79) (mCd 79)) = true := by decide +kernel
set_option maxRecDepth 100000 in
theorem okd_80 : kd_80.all (okE (mOwn 80) (mCd 80)) = true := by decide +kernel
set_option maxRecDepth 100000 in
theorem okd_81 : kd_81.all (okE (mOwn 81) (mCd 81)) = true := by decide +kernel
set_option maxRecDepth 100000 in
theorem okd_82 : kd_82.all (okE (mOwn 82) (mCd 82)) = true := by decide +kernel
set_option maxRecDepth 100000 in
theorem okd_83 : kd_83.all (okE (mOwn 83) (mCd 83)) = true := by decide +kernel
set_option maxRecDepth 100000 in
theorem okd_84 : kd_84.all (okE (mOwn 84) (mCd 84)) = true := by decide +kernel
set_option maxRecDepth 100000 in
theorem okd_85 : kd_85.all (okE (mOwn 85) (mCd 85)) = true := by decide +kernel
set_option maxRecDepth 100000 in
theorem okd_86 : kd_86.all (okE (mOwn 86) (mCd 86)) = true := by decide +kernel
set_option maxRecDepth 100000 in
theorem okd_87 : kd_87.all (okE (mOwn 87) (mCd 87)) = true := by decide +kernel
set_option maxRecDepth 100000 in
theorem okd_88 : kd_88.all (okE (mOwn 88) (mCd 88)) = true := by decide +kernel
set_option maxRecDepth 100000 in
theorem okd_89 : kd_89.all (okE (mOwn 89) (mCd 89)) = true := by decide +kernel
set_option maxRecDepth 100000 in
theorem okd_90 : kd_90.all (okE (mOwn 90) (mCd 90)) = true := by decide +kernel
set_option maxRecDepth 100000 in
theorem okd_91 : kd_91.all (okE (mOwn 91) (mCd 91)) = true := by decide +kernel
set_option maxRecDepth 100000 in
theorem okd_92 : kd_92.all (okE (mOwn 92) (mCd 92)) = true := by decide +kernel
set_option maxRecDepth 100000 in
theorem okd_93 : kd_93.all (okE (mOwn 93) (mCd 93)) = true := by decide +kernel
set_option maxRecDepth 100000 in
theorem okd_94 : kd_94.all (okE (mOwn 94) (mCd 94)) = true := by decide +kernel
set_option maxRecDepth 100000 in
theorem okd_95 : kd_95.all (okE (mOwn 95) (mCd 95)) = true := by decide +kernel
set_option maxRecDepth 100000 in
theorem okd_96 : kd_96.all (okE (mOwn 96) (mCd 96)) = true := by decide +kernel
set_option maxRecDepth 100000 in
theorem okd_97 : kd_97.all (okE (mOwn 97) (mCd 97)) = true := by decide +kernel
set_option maxRecDepth 100000 in
theorem okd_98 : kd_98.all (okE (mOwn 98) (mCd 98)) = true := by decide +kernel
set_option maxRecDepth 100000 in
theorem okd_99 : kd_99.all (okE (mOwn 99) (mCd 99)) = true := by decide +kernel
set_option maxRecDepth 100000 in
theorem okd_100 : kd_100.all (okE (mOwn 100) (mCd 100)) = true := by decide +kernel
set_option maxRecDepth 100000 in
theorem okd_101 : kd_101.all (okE (mOwn 101) (mCd 101)) = true := by decide +kernel
set_option maxRecDepth 100000 in
theorem okd_102 : kd_102.all (okE (mOwn 102) (mCd 102)) = true := by decide +kernel
set_option maxRecDepth 100000 in
theorem okd_103 : kd_103.all (okE (mOwn 103) (mCd 103)) = true := by decide +kernel
set_option maxRecDepth 100000 in
theorem okd_104 : kd_104.all (okE (mOwn 104) (mCd 104)) = true := by decide +kernel
set_option maxRecDepth 100000 in
theorem okd_105 : kd_105.all (okE (mOwn 105) (mCd 105)) = true := by decide +kernel
set_option maxRecDepth 100000 in
theorem okd_106 : kd_106.all (okE (mOwn 106) (mCd 106)) = true := by decide +kernel
set_option maxRecDepth 100000 in
theorem okd_107 : kd_107.all (okE (mOwn 107) (mCd 107)) = true := by decide +kernel
set_option maxRecDepth 100000 in
theorem okd_108 : kd_108.all (okE (mOwn 108) (mCd 108)) = true := by decide +kernel
set_option maxRecDepth 100000 in
theorem okd_109 : kd_109.all (okE (mOwn 109) (mCd 109)) = true := by decide +kernel
set_option maxRecDepth 100000 in
theorem okd_110 : kd_110.all (okE (mOwn 110) (mCd 110)) = true := by decide +kernel
set_option maxRecDepth 100000 in
theorem okd_111 : kd_111.all (okE (mOwn 111) (mCd 111)) = true := by decide +kernel
set_option maxRecDepth 100000 in
theorem okd_112 : kd_112.all (okE (mOwn 112) (mCd 112)) = true := by decide +kernel
set_option maxRecDepth 100000 in
theorem okd_113 : kd_113.all (okE (mOwn 113) (mCd 113)) = true := by decide +kernel
set_option maxRecDepth 100000 in
theorem okd_114 : kd_114.all (okE (mOwn 114) (mCd 114)) = true := by decide +kernel
set_option maxRecDepth 100000 in
theorem okd_115 : kd_115.all (okE (mOwn 115) (mCd 115)) = true := by decide +kernel
set_option maxRecDepth 100000 in
theorem okd_116 : kd_116.all (okE (mOwn 116) (mCd 116)) = true := by decide +kernel
set_option maxRecDepth 100000 in
theorem okd_117 : kd_117.all (okE (mOwn 117) (mCd 117)) = true := by decide +kernel
set_option maxRecDepth 100000 in
theorem okd_118 : kd_118.all (okE (mOwn 118) (mCd 118)) = true := by decide +kernel
set_option maxRecDepth 100000 in
theorem okd_119 : kd_119.all (okE (mOwn 119) (mCd 119)) = true := by decide +kernel
set_option maxRecDepth 100000 in
theorem okd_120 : kd_120.all (okE (mOwn 120) (mCd 120)) = true := by decide +kernel
set_option maxRecDepth 100000 in
theorem okd_121 : kd_121.all (okE (mOwn 121) (mCd 121)) = true := by decide +kernel
set_option maxRecDepth 100000 in
theorem okd_122 : kd_122.all (okE (mOwn 122) (mCd 122)) = true := by decide +kernel
set_option maxRecDepth 100000 in
theorem okd_123 : kd_123.all (okE (mOwn 123) (mCd 123)) = true := by decide +kernel
set_option maxRecDepth 100000 in
theorem okd_124 : kd_124.all (okE (mOwn 124) (mCd 124)) = true := by decide +kernel
set_option maxRecDepth 100000 in
theorem okd_125 : kd_125.all (okE (mOwn 125) (mCd 125)) = true := by decide +kernel
set_option maxRecDepth 100000 in
theorem okd_126 : kd_126.all (okE (mOwn 126) (mCd 126)) = true := by decide +kernel
set_option maxRecDepth 100000 in
theorem okd_127 : kd_127.all (okE (mOwn 127) (mCd 127)) = true := by decide +kernel
set_option maxRecDepth 100000 in
theorem okd_128 : kd_128.all (okE (mOwn 128) (mCd 128)) = true := by decide +kernel
set_option maxRecDepth 100000 in
theorem okd_129 : kd_129.all (okE (mOwn 129) (mCd 129)) = true := by decide +kernel
set_option maxRecDepth 100000 in
theorem okd_130 : kd_130.all (okE (mOwn 130) (mCd 130)) = true := by decide +kernel
set_option maxRecDepth 100000 in
theorem okd_131 : kd_131.all (okE (mOwn 131) (mCd 131)) = true := by decide +kernel
set_option maxRecDepth 100000 in
theorem okd_132 : kd_132.all (okE (mOwn 132) (mCd 132)) = true := by decide +kernel
set_option maxRecDepth 100000 in
theorem okd_133 : kd_133.all (okE (mOwn 133) (mCd 133)) = true := by decide +kernel
set_option maxRecDepth 100000 in
theorem okd_134 : kd_134.all (okE (mOwn 134) (mCd 134)) = true := by decide +kernel
set_option maxRecDepth 100000 in
theorem okd_135 : kd_135.all (okE (mOwn 135) (mCd 135)) = true := by decide +kernel
set_option maxRecDepth 100000 in
theorem okd_136 : kd_136.all (okE (mOwn 136) (mCd 136)) = true := by decide +kernel
set_option maxRecDepth 100000 in
theorem okd_137 : kd_137.all (okE (mOwn 137) (mCd 137)) = true := by decide +kernel
set_option maxRecDepth 100000 in
theorem okd_138 : kd_138.all (okE (mOwn 138) (mCd 138)) = true := by decide +kernel
set_option maxRecDepth 100000 in
theorem okd_139 : kd_139.all (okE (mOwn 139) (mCd 139)) = true := by decide +kernel
set_option maxRecDepth 100000 in
theorem okd_140 : kd_140.all (okE (mOwn 140) (mCd 140)) = true := by decide +kernel
set_option maxRecDepth 100000 in
theorem okd_141 : kd_141.all (okE (mOwn 141) (mCd 141)) = true := by decide +kernel
set_option maxRecDepth 100000 in
theorem okd_142 : kd_142.all (okE (mOwn 142) (mCd 142)) = true := by decide +kernel
set_option maxRecDepth 100000 in
theorem okd_143 : kd_143.all (okE (mOwn 143) (mCd 143)) = true := by decide +kernel
set_option maxRecDepth 100000 in
theorem okd_144 : kd_144.all (okE (mOwn 144) (mCd 144)) = true := by decide +kernel
set_option maxRecDepth 100000 in
theorem okd_145 : kd_145.all (okE (mOwn 145) (mCd 145)) = true := by decide +kernel
set_option maxRecDepth 100000 in
theorem okd_146 : kd_146.all (okE (mOwn 146) (mCd 146)) = true := by decide +kernel
set_option maxRecDepth 100000 in
theorem okd_147 : kd_147.all (okE (mOwn 147) (mCd 147)) = true := by decide +kernel
set_option maxRecDepth 100000 in
theorem okd_148 : kd_148.all (okE (mOwn 148) (mCd 148)) = true := by decide +kernel
set_option maxRecDepth 100000 in
theorem okd_149 : kd_149.all (okE (mOwn 149) (mCd 149)) = true := by decide +kernel
set_option maxRecDepth 100000 in
theorem okd_150 : kd_150.all (okE (mOwn 150) (mCd 150)) = true := by decide +kernel
set_option maxRecDepth 100000 in
theorem okd_151 : kd_151.all (okE (mOwn 151) (mCd 151)) = true := by decide +kernel
set_option maxRecDepth 100000 in
theorem okd_152 : kd_152.all (okE (mOwn 152) (mCd 152)) = true := by decide +kernel
set_option maxRecDepth 100000 in
theorem okd_153 : kd_153.all (okE (mOwn 153) (mCd 153)) = true := by decide +kernel
set_option maxRecDepth 100000 in
theorem okd_154 : kd_154.all (okE (mOwn 154) (mCd 154)) = true := by decide +kernel
set_option maxRecDepth 100000 in
theorem okd_155 : kd_155.all (okE (mOwn 155) (mCd 155)) = true := by decide +kernel
set_option maxRecDepth 100000 in
theorem okd_156 : kd_156.all (okE (mOwn 156) (mCd 156)) = true := by decide +kernel
set_option maxRecDepth 100000 in
theorem okd_157 : kd_157.all (okE (mOwn 157) (mCd 157)) = true := by decide +kernel
set_option maxRecDepth 100000 in
theorem okd_158 : kd_158.all (okE (mOwn 158) (mCd 158)) = true := by decide +kernel
set_option maxRecDepth 100000 in
theorem okd_159 : kd_159.all (okE (mOwn 159) (mCd 159)) = true := by decide +kernel
