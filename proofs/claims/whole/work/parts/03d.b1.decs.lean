theorem am_D_78 : (am_code 78).all (am_okE 78) = true := by decide +kernel
theorem am_D_79 : (am_code 79).all (am_okE 79) = true := by decide +kernel
theorem am_D_80 : (am_code 80).all (am_okE 80) = true := by decide +kernel
theorem am_D_81 : (am_code 81).all (am_okE 81) = true := by decide +kernel
theorem am_D_82 : (am_code 82).all (am_okE 82) = true := by decide +kernel
theorem am_D_83_0 : (((am_code 83).drop 0).take 60).all (am_okE 83) = true := by decide +kernel
theorem am_D_83_1 : ((am_code 83).drop 60).all (am_okE 83) = true := by decide +kernel
theorem am_D_83 : (am_code 83).all (am_okE 83) = true := am_all_app 60 am_D_83_0 (am_D_83_1)
theorem am_D_84 : (am_code 84).all (am_okE 84) = true := by decide +kernel
theorem am_D_85 : (am_code 85).all (am_okE 85) = true := by decide +kernel
theorem am_D_86 : (am_code 86).all (am_okE 86) = true := by decide +kernel
theorem am_D_87 : (am_code 87).all (am_okE 87) = true := by decide +kernel
theorem am_D_88 : (am_code 88).all (am_okE 88) = true := by decide +kernel
theorem am_D_89 : (am_code 89).all (am_okE 89) = true := by decide +kernel
theorem am_D_90_0 : (((am_code 90).drop 0).take 60).all (am_okE 90) = true := by decide +kernel
theorem am_D_90_1 : ((am_code 90).drop 60).all (am_okE 90) = true := by decide +kernel
theorem am_D_90 : (am_code 90).all (am_okE 90) = true := am_all_app 60 am_D_90_0 (am_D_90_1)
theorem am_D_91 : (am_code 91).all (am_okE 91) = true := by decide +kernel
theorem am_D_92 : (am_code 92).all (am_okE 92) = true := by decide +kernel
theorem am_D_93_0 : (((am_code 93).drop 0).take 60).all (am_okE 93) = true := by decide +kernel
theorem am_D_93_1 : ((am_code 93).drop 60).all (am_okE 93) = true := by decide +kernel
theorem am_D_93 : (am_code 93).all (am_okE 93) = true := am_all_app 60 am_D_93_0 (am_D_93_1)
theorem am_D_94_0 : (((am_code 94).drop 0).take 60).all (am_okE 94) = true := by decide +kernel
theorem am_D_94_1 : ((am_code 94).drop 60).all (am_okE 94) = true := by decide +kernel
theorem am_D_94 : (am_code 94).all (am_okE 94) = true := am_all_app 60 am_D_94_0 (am_D_94_1)
theorem am_D_95_0 : (((am_code 95).drop 0).take 60).all (am_okE 95) = true := by decide +kernel
theorem am_D_95_1 : ((am_code 95).drop 60).all (am_okE 95) = true := by decide +kernel
theorem am_D_95 : (am_code 95).all (am_okE 95) = true := am_all_app 60 am_D_95_0 (am_D_95_1)
theorem am_D_96 : (am_code 96).all (am_okE 96) = true := by decide +kernel
theorem am_D_97 : (am_code 97).all (am_okE 97) = true := by decide +kernel
theorem am_D_98_0 : (((am_code 98).drop 0).take 60).all (am_okE 98) = true := by decide +kernel
theorem am_D_98_1 : ((am_code 98).drop 60).all (am_okE 98) = true := by decide +kernel
theorem am_D_98 : (am_code 98).all (am_okE 98) = true := am_all_app 60 am_D_98_0 (am_D_98_1)
theorem am_D_99 : (am_code 99).all (am_okE 99) = true := by decide +kernel
theorem am_D_100_0 : (((am_code 100).drop 0).take 60).all (am_okE 100) = true := by decide +kernel
theorem am_D_100_1 : ((am_code 100).drop 60).all (am_okE 100) = true := by decide +kernel
theorem am_D_100 : (am_code 100).all (am_okE 100) = true := am_all_app 60 am_D_100_0 (am_D_100_1)
theorem am_D_101_0 : (((am_code 101).drop 0).take 60).all (am_okE 101) = true := by decide +kernel
theorem am_D_101_1 : ((am_code 101).drop 60).all (am_okE 101) = true := by decide +kernel
theorem am_D_101 : (am_code 101).all (am_okE 101) = true := am_all_app 60 am_D_101_0 (am_D_101_1)
theorem am_D_102_0 : (((am_code 102).drop 0).take 60).all (am_okE 102) = true := by decide +kernel
theorem am_D_102_1 : ((am_code 102).drop 60).all (am_okE 102) = true := by decide +kernel
theorem am_D_102 : (am_code 102).all (am_okE 102) = true := am_all_app 60 am_D_102_0 (am_D_102_1)
theorem am_D_103_0 : (((am_code 103).drop 0).take 60).all (am_okE 103) = true := by decide +kernel
theorem am_D_103_1 : ((am_code 103).drop 60).all (am_okE 103) = true := by decide +kernel
theorem am_D_103 : (am_code 103).all (am_okE 103) = true := am_all_app 60 am_D_103_0 (am_D_103_1)
theorem am_D_104_0 : (((am_code 104).drop 0).take 60).all (am_okE 104) = true := by decide +kernel
theorem am_D_104_1 : ((am_code 104).drop 60).all (am_okE 104) = true := by decide +kernel
theorem am_D_104 : (am_code 104).all (am_okE 104) = true := am_all_app 60 am_D_104_0 (am_D_104_1)
theorem am_D_105_0 : (((am_code 105).drop 0).take 60).all (am_okE 105) = true := by decide +kernel
theorem am_D_105_1 : ((am_code 105).drop 60).all (am_okE 105) = true := by decide +kernel
theorem am_D_105 : (am_code 105).all (am_okE 105) = true := am_all_app 60 am_D_105_0 (am_D_105_1)
theorem am_D_106_0 : (((am_code 106).drop 0).take 60).all (am_okE 106) = true := by decide +kernel
theorem am_D_106_1 : ((am_code 106).drop 60).all (am_okE 106) = true := by decide +kernel
theorem am_D_106 : (am_code 106).all (am_okE 106) = true := am_all_app 60 am_D_106_0 (am_D_106_1)
theorem am_D_107_0 : (((am_code 107).drop 0).take 60).all (am_okE 107) = true := by decide +kernel
theorem am_D_107_1 : ((am_code 107).drop 60).all (am_okE 107) = true := by decide +kernel
theorem am_D_107 : (am_code 107).all (am_okE 107) = true := am_all_app 60 am_D_107_0 (am_D_107_1)
theorem am_D_108_0 : (((am_code 108).drop 0).take 60).all (am_okE 108) = true := by decide +kernel
theorem am_D_108_1 : ((am_code 108).drop 60).all (am_okE 108) = true := by decide +kernel
theorem am_D_108 : (am_code 108).all (am_okE 108) = true := am_all_app 60 am_D_108_0 (am_D_108_1)
theorem am_D_109 : (am_code 109).all (am_okE 109) = true := by decide +kernel
theorem am_D_110_0 : (((am_code 110).drop 0).take 60).all (am_okE 110) = true := by decide +kernel
theorem am_D_110_1 : ((am_code 110).drop 60).all (am_okE 110) = true := by decide +kernel
theorem am_D_110 : (am_code 110).all (am_okE 110) = true := am_all_app 60 am_D_110_0 (am_D_110_1)
theorem am_D_111 : (am_code 111).all (am_okE 111) = true := by decide +kernel
theorem am_D_112 : (am_code 112).all (am_okE 112) = true := by decide +kernel
theorem am_D_113 : (am_code 113).all (am_okE 113) = true := by decide +kernel
theorem am_D_114_0 : (((am_code 114).drop 0).take 60).all (am_okE 114) = true := by decide +kernel
theorem am_D_114_1 : ((am_code 114).drop 60).all (am_okE 114) = true := by decide +kernel
theorem am_D_114 : (am_code 114).all (am_okE 114) = true := am_all_app 60 am_D_114_0 (am_D_114_1)
theorem am_D_115 : (am_code 115).all (am_okE 115) = true := by decide +kernel
theorem am_D_116 : (am_code 116).all (am_okE 116) = true := by decide +kernel
theorem am_D_117 : (am_code 117).all (am_okE 117) = true := by decide +kernel
theorem am_D_118_0 : (((am_code 118).drop 0).take 60).all (am_okE 118) = true := by decide +kernel
theorem am_D_118_1 : ((am_code 118).drop 60).all (am_okE 118) = true := by decide +kernel
theorem am_D_118 : (am_code 118).all (am_okE 118) = true := am_all_app 60 am_D_118_0 (am_D_118_1)
theorem am_D_119 : (am_code 119).all (am_okE 119) = true := by decide +kernel
theorem am_D_120 : (am_code 120).all (am_okE 120) = true := by decide +kernel
theorem am_D_121 : (am_code 121).all (am_okE 121) = true := by decide +kernel
theorem am_D_122 : (am_code 122).all (am_okE 122) = true := by decide +kernel
theorem am_D_123 : (am_code 123).all (am_okE 123) = true := by decide +kernel
theorem am_D_124 : (am_code 124).all (am_okE 124) = true := by decide +kernel
theorem am_D_125 : (am_code 125).all (am_okE 125) = true := by decide +kernel
theorem am_D_126 : (am_code 126).all (am_okE 126) = true := by decide +kernel
theorem am_D_127 : (am_code 127).all (am_okE 127) = true := by decide +kernel
theorem am_D_128 : (am_code 128).all (am_okE 128) = true := by decide +kernel
theorem am_D_129 : (am_code 129).all (am_okE 129) = true := by decide +kernel
theorem am_D_130 : (am_code 130).all (am_okE 130) = true := by decide +kernel
theorem am_D_131_0 : (((am_code 131).drop 0).take 60).all (am_okE 131) = true := by decide +kernel
theorem am_D_131_1 : ((am_code 131).drop 60).all (am_okE 131) = true := by decide +kernel
theorem am_D_131 : (am_code 131).all (am_okE 131) = true := am_all_app 60 am_D_131_0 (am_D_131_1)
theorem am_D_132 : (am_code 132).all (am_okE 132) = true := by decide +kernel
theorem am_D_133 : (am_code 133).all (am_okE 133) = true := by decide +kernel
theorem am_D_134 : (am_code 134).all (am_okE 134) = true := by decide +kernel
theorem am_D_135 : (am_code 135).all (am_okE 135) = true := by decide +kernel
theorem am_D_136 : (am_code 136).all (am_okE 136) = true := by decide +kernel
theorem am_D_137 : (am_code 137).all (am_okE 137) = true := by decide +kernel
theorem am_D_138 : (am_code 138).all (am_okE 138) = true := by decide +kernel
theorem am_D_139 : (am_code 139).all (am_okE 139) = true := by decide +kernel
theorem am_D_140 : (am_code 140).all (am_okE 140) = true := by decide +kernel
