theorem am_D_78 : (cd_X8_fail).all (am_okE2 cX8_fail 8 (some .boolean) "fail") = true := by decide +kernel
theorem am_D_79 : (cd_X8_readWord).all (am_okE2 cX8_readWord 8 (some .boolean) "readWord") = true := by decide +kernel
theorem am_D_80 : (cd_X10_value).all (am_okE2 cX10_value 10 (some .int) "value") = true := by decide +kernel
theorem am_D_81 : (cd_X8_readWhole).all (am_okE2 cX8_readWhole 8 (some .int) "readWhole") = true := by decide +kernel
theorem am_D_82 : (cd_X8_readNamed).all (am_okE2 cX8_readNamed 8 (some .int) "readNamed") = true := by decide +kernel
theorem am_D_83_0 : ((cd_X8_readLegion.drop 0).take 60).all (am_okE2 cX8_readLegion 8 (some .boolean) "readLegion") = true := by decide +kernel
theorem am_D_83_1 : (cd_X8_readLegion.drop 60).all (am_okE2 cX8_readLegion 8 (some .boolean) "readLegion") = true := by decide +kernel
theorem am_D_83 : (cd_X8_readLegion).all (am_okE2 cX8_readLegion 8 (some .boolean) "readLegion") = true := am_all_app 60 am_D_83_0 (am_D_83_1)
theorem am_D_84 : (cd_X10_letters).all (am_okE2 cX10_letters 10 (some .long) "letters") = true := by decide +kernel
theorem am_D_85 : (cd_X8_indexOf).all (am_okE2 cX8_indexOf 8 (some .int) "indexOf") = true := by decide +kernel
theorem am_D_86 : (cd_X8_isFreshName).all (am_okE2 cX8_isFreshName 8 (some .boolean) "isFreshName") = true := by decide +kernel
theorem am_D_87 : (cd_X8_readTen).all (am_okE2 cX8_readTen 8 (some .boolean) "readTen") = true := by decide +kernel
theorem am_D_88 : (cd_X8_readKind).all (am_okE2 cX8_readKind 8 (some .int) "readKind") = true := by decide +kernel
theorem am_D_89 : (cd_X8_findTold).all (am_okE2 cX8_findTold 8 (some .int) "findTold") = true := by decide +kernel
theorem am_D_90_0 : ((cd_X8_readMan.drop 0).take 60).all (am_okE2 cX8_readMan 8 (some .boolean) "readMan") = true := by decide +kernel
theorem am_D_90_1 : (cd_X8_readMan.drop 60).all (am_okE2 cX8_readMan 8 (some .boolean) "readMan") = true := by decide +kernel
theorem am_D_90 : (cd_X8_readMan).all (am_okE2 cX8_readMan 8 (some .boolean) "readMan") = true := am_all_app 60 am_D_90_0 (am_D_90_1)
theorem am_D_91 : (cd_X8_readMember).all (am_okE2 cX8_readMember 8 (some .int) "readMember") = true := by decide +kernel
theorem am_D_92 : (cd_X8_findOther).all (am_okE2 cX8_findOther 8 (some .int) "findOther") = true := by decide +kernel
theorem am_D_93_0 : ((cd_X8_readFriend.drop 0).take 60).all (am_okE2 cX8_readFriend 8 (some .boolean) "readFriend") = true := by decide +kernel
theorem am_D_93_1 : (cd_X8_readFriend.drop 60).all (am_okE2 cX8_readFriend 8 (some .boolean) "readFriend") = true := by decide +kernel
theorem am_D_93 : (cd_X8_readFriend).all (am_okE2 cX8_readFriend 8 (some .boolean) "readFriend") = true := am_all_app 60 am_D_93_0 (am_D_93_1)
theorem am_D_94_0 : ((cd_X8_readHelmet.drop 0).take 60).all (am_okE2 cX8_readHelmet 8 (some .boolean) "readHelmet") = true := by decide +kernel
theorem am_D_94_1 : (cd_X8_readHelmet.drop 60).all (am_okE2 cX8_readHelmet 8 (some .boolean) "readHelmet") = true := by decide +kernel
theorem am_D_94 : (cd_X8_readHelmet).all (am_okE2 cX8_readHelmet 8 (some .boolean) "readHelmet") = true := am_all_app 60 am_D_94_0 (am_D_94_1)
theorem am_D_95_0 : ((cd_X8_readDrew.drop 0).take 60).all (am_okE2 cX8_readDrew 8 (some .boolean) "readDrew") = true := by decide +kernel
theorem am_D_95_1 : (cd_X8_readDrew.drop 60).all (am_okE2 cX8_readDrew 8 (some .boolean) "readDrew") = true := by decide +kernel
theorem am_D_95 : (cd_X8_readDrew).all (am_okE2 cX8_readDrew 8 (some .boolean) "readDrew") = true := am_all_app 60 am_D_95_0 (am_D_95_1)
theorem am_D_96 : (cd_X8_readGone).all (am_okE2 cX8_readGone 8 (some .boolean) "readGone") = true := by decide +kernel
theorem am_D_97 : (cd_X8_readAmong).all (am_okE2 cX8_readAmong 8 (some .boolean) "readAmong") = true := by decide +kernel
theorem am_D_98_0 : ((cd_X8_readText.drop 0).take 60).all (am_okE2 cX8_readText 8 (some .boolean) "readText") = true := by decide +kernel
theorem am_D_98_1 : (cd_X8_readText.drop 60).all (am_okE2 cX8_readText 8 (some .boolean) "readText") = true := by decide +kernel
theorem am_D_98 : (cd_X8_readText).all (am_okE2 cX8_readText 8 (some .boolean) "readText") = true := am_all_app 60 am_D_98_0 (am_D_98_1)
theorem am_D_99 : (cd_X9_init).all (am_okE2 cX9_init 9 (none) "<init>") = true := by decide +kernel
theorem am_D_100_0 : (((cd_X9_assignFrom 9999).drop 0).take 60).all (am_okE2 cX9_assignFrom 9 (none) "assignFrom") = true := by decide +kernel
theorem am_D_100_1 : ((cd_X9_assignFrom 9999).drop 60).all (am_okE2 cX9_assignFrom 9 (none) "assignFrom") = true := by decide +kernel
theorem am_D_100 : ((cd_X9_assignFrom 9999)).all (am_okE2 cX9_assignFrom 9 (none) "assignFrom") = true := am_all_app 60 am_D_100_0 (am_D_100_1)
theorem am_D_101_0 : (((cd_X9_assignFrom 100).drop 0).take 60).all (am_okE2 cX9_assignFrom 9 (none) "assignFrom") = true := by decide +kernel
theorem am_D_101_1 : ((cd_X9_assignFrom 100).drop 60).all (am_okE2 cX9_assignFrom 9 (none) "assignFrom") = true := by decide +kernel
theorem am_D_101 : ((cd_X9_assignFrom 100)).all (am_okE2 cX9_assignFrom 9 (none) "assignFrom") = true := am_all_app 60 am_D_101_0 (am_D_101_1)
theorem am_D_102_0 : (((cd_X9_assignFrom 101).drop 0).take 60).all (am_okE2 cX9_assignFrom 9 (none) "assignFrom") = true := by decide +kernel
theorem am_D_102_1 : ((cd_X9_assignFrom 101).drop 60).all (am_okE2 cX9_assignFrom 9 (none) "assignFrom") = true := by decide +kernel
theorem am_D_102 : ((cd_X9_assignFrom 101)).all (am_okE2 cX9_assignFrom 9 (none) "assignFrom") = true := am_all_app 60 am_D_102_0 (am_D_102_1)
theorem am_D_103_0 : (((cd_X9_assignFrom 102).drop 0).take 60).all (am_okE2 cX9_assignFrom 9 (none) "assignFrom") = true := by decide +kernel
theorem am_D_103_1 : ((cd_X9_assignFrom 102).drop 60).all (am_okE2 cX9_assignFrom 9 (none) "assignFrom") = true := by decide +kernel
theorem am_D_103 : ((cd_X9_assignFrom 102)).all (am_okE2 cX9_assignFrom 9 (none) "assignFrom") = true := am_all_app 60 am_D_103_0 (am_D_103_1)
theorem am_D_104_0 : (((cd_X9_assignFrom 103).drop 0).take 60).all (am_okE2 cX9_assignFrom 9 (none) "assignFrom") = true := by decide +kernel
theorem am_D_104_1 : ((cd_X9_assignFrom 103).drop 60).all (am_okE2 cX9_assignFrom 9 (none) "assignFrom") = true := by decide +kernel
theorem am_D_104 : ((cd_X9_assignFrom 103)).all (am_okE2 cX9_assignFrom 9 (none) "assignFrom") = true := am_all_app 60 am_D_104_0 (am_D_104_1)
theorem am_D_105_0 : (((cd_X9_assignFrom 104).drop 0).take 60).all (am_okE2 cX9_assignFrom 9 (none) "assignFrom") = true := by decide +kernel
theorem am_D_105_1 : ((cd_X9_assignFrom 104).drop 60).all (am_okE2 cX9_assignFrom 9 (none) "assignFrom") = true := by decide +kernel
theorem am_D_105 : ((cd_X9_assignFrom 104)).all (am_okE2 cX9_assignFrom 9 (none) "assignFrom") = true := am_all_app 60 am_D_105_0 (am_D_105_1)
theorem am_D_106_0 : (((cd_X9_assignFrom 105).drop 0).take 60).all (am_okE2 cX9_assignFrom 9 (none) "assignFrom") = true := by decide +kernel
theorem am_D_106_1 : ((cd_X9_assignFrom 105).drop 60).all (am_okE2 cX9_assignFrom 9 (none) "assignFrom") = true := by decide +kernel
theorem am_D_106 : ((cd_X9_assignFrom 105)).all (am_okE2 cX9_assignFrom 9 (none) "assignFrom") = true := am_all_app 60 am_D_106_0 (am_D_106_1)
theorem am_D_107_0 : (((cd_X9_assignFrom 106).drop 0).take 60).all (am_okE2 cX9_assignFrom 9 (none) "assignFrom") = true := by decide +kernel
theorem am_D_107_1 : ((cd_X9_assignFrom 106).drop 60).all (am_okE2 cX9_assignFrom 9 (none) "assignFrom") = true := by decide +kernel
theorem am_D_107 : ((cd_X9_assignFrom 106)).all (am_okE2 cX9_assignFrom 9 (none) "assignFrom") = true := am_all_app 60 am_D_107_0 (am_D_107_1)
theorem am_D_108_0 : (((cd_X9_assignFrom 107).drop 0).take 60).all (am_okE2 cX9_assignFrom 9 (none) "assignFrom") = true := by decide +kernel
theorem am_D_108_1 : ((cd_X9_assignFrom 107).drop 60).all (am_okE2 cX9_assignFrom 9 (none) "assignFrom") = true := by decide +kernel
theorem am_D_108 : ((cd_X9_assignFrom 107)).all (am_okE2 cX9_assignFrom 9 (none) "assignFrom") = true := am_all_app 60 am_D_108_0 (am_D_108_1)
theorem am_D_109 : (cd_X9_solve).all (am_okE2 cX9_solve 9 (none) "solve") = true := by decide +kernel
theorem am_D_110_0 : ((cd_X11_init.drop 0).take 60).all (am_okE2 cX11_init 11 (none) "<init>") = true := by decide +kernel
theorem am_D_110_1 : (cd_X11_init.drop 60).all (am_okE2 cX11_init 11 (none) "<init>") = true := by decide +kernel
theorem am_D_110 : (cd_X11_init).all (am_okE2 cX11_init 11 (none) "<init>") = true := am_all_app 60 am_D_110_0 (am_D_110_1)
theorem am_D_111 : (cd_X11_putBytes).all (am_okE2 cX11_putBytes 11 (none) "putBytes") = true := by decide +kernel
theorem am_D_112 : (cd_X11_feed).all (am_okE2 cX11_feed 11 (some .int) "feed") = true := by decide +kernel
theorem am_D_113 : (cd_X11_refused).all (am_okE2 cX11_refused 11 (some .boolean) "refused") = true := by decide +kernel
theorem am_D_114_0 : ((cd_X11_legion.drop 0).take 60).all (am_okE2 cX11_legion 11 (some .int) "legion") = true := by decide +kernel
theorem am_D_114_1 : (cd_X11_legion.drop 60).all (am_okE2 cX11_legion 11 (some .int) "legion") = true := by decide +kernel
theorem am_D_114 : (cd_X11_legion).all (am_okE2 cX11_legion 11 (some .int) "legion") = true := am_all_app 60 am_D_114_0 (am_D_114_1)
theorem am_D_115 : (cd_X11_fault).all (am_okE2 cX11_fault 11 (some .int) "fault") = true := by decide +kernel
theorem am_D_116 : (cd_X11_where).all (am_okE2 cX11_where 11 (some .int) "where") = true := by decide +kernel
theorem am_D_117 : (cd_X11_troubleOfMan).all (am_okE2 cX11_troubleOfMan 11 (some .int) "troubleOfMan") = true := by decide +kernel
theorem am_D_118_0 : ((cd_X11_man.drop 0).take 60).all (am_okE2 cX11_man 11 (some .int) "man") = true := by decide +kernel
theorem am_D_118_1 : (cd_X11_man.drop 60).all (am_okE2 cX11_man 11 (some .int) "man") = true := by decide +kernel
theorem am_D_118 : (cd_X11_man).all (am_okE2 cX11_man 11 (some .int) "man") = true := am_all_app 60 am_D_118_0 (am_D_118_1)
theorem am_D_119 : (cd_X11_troubleOfTen).all (am_okE2 cX11_troubleOfTen 11 (some .int) "troubleOfTen") = true := by decide +kernel
theorem am_D_120 : (cd_X11_ten).all (am_okE2 cX11_ten 11 (some .int) "ten") = true := by decide +kernel
theorem am_D_121 : (cd_X11_troubleOfLegion).all (am_okE2 cX11_troubleOfLegion 11 (some .int) "troubleOfLegion") = true := by decide +kernel
theorem am_D_122 : (cd_X11_there).all (am_okE2 cX11_there 11 (some .int) "there") = true := by decide +kernel
theorem am_D_123 : (cd_X11_anger).all (am_okE2 cX11_anger 11 (some .int) "anger") = true := by decide +kernel
theorem am_D_124 : (cd_X11_mutiny).all (am_okE2 cX11_mutiny 11 (some .int) "mutiny") = true := by decide +kernel
theorem am_D_125 : (cd_X11_firstOf).all (am_okE2 cX11_firstOf 11 (some .int) "firstOf") = true := by decide +kernel
theorem am_D_126 : (cd_X11_troubleOfStart).all (am_okE2 cX11_troubleOfStart 11 (some .int) "troubleOfStart") = true := by decide +kernel
theorem am_D_127 : (cd_X11_runs).all (am_okE2 cX11_runs 11 (some .int) "runs") = true := by decide +kernel
theorem am_D_128 : (cd_X11_holds).all (am_okE2 cX11_holds 11 (some .int) "holds") = true := by decide +kernel
theorem am_D_129 : (cd_X11_worst).all (am_okE2 cX11_worst 11 (some .int) "worst") = true := by decide +kernel
theorem am_D_130 : (cd_X11_breaks).all (am_okE2 cX11_breaks 11 (some .int) "breaks") = true := by decide +kernel
theorem am_D_131_0 : ((cd_X11_brace.drop 0).take 60).all (am_okE2 cX11_brace 11 (some .int) "brace") = true := by decide +kernel
theorem am_D_131_1 : (cd_X11_brace.drop 60).all (am_okE2 cX11_brace 11 (some .int) "brace") = true := by decide +kernel
theorem am_D_131 : (cd_X11_brace).all (am_okE2 cX11_brace 11 (some .int) "brace") = true := am_all_app 60 am_D_131_0 (am_D_131_1)
theorem am_D_132 : (cd_X11_toHearten).all (am_okE2 cX11_toHearten 11 (some .int) "toHearten") = true := by decide +kernel
theorem am_D_133 : (cd_X11_fearFor).all (am_okE2 cX11_fearFor 11 (some .int) "fearFor") = true := by decide +kernel
theorem am_D_134 : (cd_X11_troubleOfLot).all (am_okE2 cX11_troubleOfLot 11 (some .int) "troubleOfLot") = true := by decide +kernel
theorem am_D_135 : (cd_X11_choices).all (am_okE2 cX11_choices 11 (some .int) "choices") = true := by decide +kernel
theorem am_D_136 : (cd_X11_sets).all (am_okE2 cX11_sets 11 (some .int) "sets") = true := by decide +kernel
theorem am_D_137 : (cd_X11_troubleOfPresent).all (am_okE2 cX11_troubleOfPresent 11 (some .int) "troubleOfPresent") = true := by decide +kernel
theorem am_D_138 : (cd_X11_drawn).all (am_okE2 cX11_drawn 11 (some .long) "drawn") = true := by decide +kernel
theorem am_D_139 : (cd_X11_troubleOfLotFrom).all (am_okE2 cX11_troubleOfLotFrom 11 (some .int) "troubleOfLotFrom") = true := by decide +kernel
theorem am_D_140 : (cd_X11_holdsAfter).all (am_okE2 cX11_holdsAfter 11 (some .long) "holdsAfter") = true := by decide +kernel
