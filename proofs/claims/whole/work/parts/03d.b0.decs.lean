theorem am_D_0 : (cd_X6_init).all (am_okE2 cX6_init 6 (none) "<init>") = true := by decide +kernel
theorem am_D_1 : (cd_X0_init).all (am_okE2 cX0_init 0 (none) "<init>") = true := by decide +kernel
theorem am_D_2 : (cd_X6_copyFrom).all (am_okE2 cX6_copyFrom 6 (none) "copyFrom") = true := by decide +kernel
theorem am_D_3 : (cd_X11_has).all (am_okE2 cX11_has 11 (some .boolean) "has") = true := by decide +kernel
theorem am_D_4 : (cd_X6_angerOfAll).all (am_okE2 cX6_angerOfAll 6 (some .int) "angerOfAll") = true := by decide +kernel
theorem am_D_5 : (cd_X6_isMutinous).all (am_okE2 cX6_isMutinous 6 (some .boolean) "isMutinous") = true := by decide +kernel
theorem am_D_6 : (cd_X6_menOf).all (am_okE2 cX6_menOf 6 (some .int) "menOf") = true := by decide +kernel
theorem am_D_7 : (cd_J6_bitCount_0f7a4).all (am_okE2 cJ6_bitCount_0f7a4 14 (some .int) "bitCount") = true := by decide +kernel
theorem am_D_8 : (cd_X6_beansOf).all (am_okE2 cX6_beansOf 6 (some .int) "beansOf") = true := by decide +kernel
theorem am_D_9 : (cd_X6_drawOne).all (am_okE2 cX6_drawOne 6 (some .int) "drawOne") = true := by decide +kernel
theorem am_D_10_0 : ((cd_X6_takeAway.drop 0).take 60).all (am_okE2 cX6_takeAway 6 (none) "takeAway") = true := by decide +kernel
theorem am_D_10_1 : (cd_X6_takeAway.drop 60).all (am_okE2 cX6_takeAway 6 (none) "takeAway") = true := by decide +kernel
theorem am_D_10 : (cd_X6_takeAway).all (am_okE2 cX6_takeAway 6 (none) "takeAway") = true := am_all_app 60 am_D_10_0 (am_D_10_1)
theorem am_D_11 : (cd_X6_drawLot).all (am_okE2 cX6_drawLot 6 (some .int) "drawLot") = true := by decide +kernel
theorem am_D_12 : (cd_X0_drawWar).all (am_okE2 cX0_drawWar 0 (some .int) "drawWar") = true := by decide +kernel
theorem am_D_13 : (cd_X0_note).all (am_okE2 cX0_note 0 (none) "note") = true := by decide +kernel
theorem am_D_14 : (cd_X6_nerveOf).all (am_okE2 cX6_nerveOf 6 (some .int) "nerveOf") = true := by decide +kernel
theorem am_D_15_0 : ((cd_X6_runWith.drop 0).take 60).all (am_okE2 cX6_runWith 6 (some .int) "runWith") = true := by decide +kernel
theorem am_D_15_1 : (cd_X6_runWith.drop 60).all (am_okE2 cX6_runWith 6 (some .int) "runWith") = true := by decide +kernel
theorem am_D_15 : (cd_X6_runWith).all (am_okE2 cX6_runWith 6 (some .int) "runWith") = true := am_all_app 60 am_D_15_0 (am_D_15_1)
theorem am_D_16 : (cd_X6_runFrom).all (am_okE2 cX6_runFrom 6 (some .int) "runFrom") = true := by decide +kernel
theorem am_D_17 : (cd_X6_holdsFast).all (am_okE2 cX6_holdsFast 6 (some .boolean) "holdsFast") = true := by decide +kernel
theorem am_D_18_0 : ((cd_X0_fight.drop 0).take 60).all (am_okE2 cX0_fight 0 (none) "fight") = true := by decide +kernel
theorem am_D_18_1 : (cd_X0_fight.drop 60).all (am_okE2 cX0_fight 0 (none) "fight") = true := by decide +kernel
theorem am_D_18 : (cd_X0_fight).all (am_okE2 cX0_fight 0 (none) "fight") = true := am_all_app 60 am_D_18_0 (am_D_18_1)
theorem am_D_19 : (cd_X1_init).all (am_okE2 cX1_init 1 (none) "<init>") = true := by decide +kernel
theorem am_D_20 : (cd_X1_clear).all (am_okE2 cX1_clear 1 (none) "clear") = true := by decide +kernel
theorem am_D_21 : (cd_X1_isTold).all (am_okE2 cX1_isTold 1 (some .boolean) "isTold") = true := by decide +kernel
theorem am_D_22 : (cd_X1_addAmong).all (am_okE2 cX1_addAmong 1 (none) "addAmong") = true := by decide +kernel
theorem am_D_23 : (cd_X1_fits).all (am_okE2 cX1_fits 1 (some .boolean) "fits") = true := by decide +kernel
theorem am_D_24 : (cd_X1_countMen).all (am_okE2 cX1_countMen 1 (none) "countMen") = true := by decide +kernel
theorem am_D_25 : (cd_X1_count).all (am_okE2 cX1_count 1 (none) "count") = true := by decide +kernel
theorem am_D_26 : (cd_X1_fittingAt).all (am_okE2 cX1_fittingAt 1 (some .int) "fittingAt") = true := by decide +kernel
theorem am_D_27 : (cd_X1_leftBy).all (am_okE2 cX1_leftBy 1 (some .int) "leftBy") = true := by decide +kernel
theorem am_D_28 : (cd_X1_bestToAsk).all (am_okE2 cX1_bestToAsk 1 (some .int) "bestToAsk") = true := by decide +kernel
theorem am_D_29 : (cd_X7_init).all (am_okE2 cX7_init 7 (none) "<init>") = true := by decide +kernel
theorem am_D_30 : (cd_X2_init).all (am_okE2 cX2_init 2 (none) "<init>") = true := by decide +kernel
theorem am_D_31 : (cd_X2_clear).all (am_okE2 cX2_clear 2 (none) "clear") = true := by decide +kernel
theorem am_D_32 : (cd_X2_isTold).all (am_okE2 cX2_isTold 2 (some .boolean) "isTold") = true := by decide +kernel
theorem am_D_33 : (cd_X2_addDraw).all (am_okE2 cX2_addDraw 2 (none) "addDraw") = true := by decide +kernel
theorem am_D_34 : (cd_X2_hasDrawn).all (am_okE2 cX2_hasDrawn 2 (some .boolean) "hasDrawn") = true := by decide +kernel
theorem am_D_35 : (cd_X2_leftOf).all (am_okE2 cX2_leftOf 2 (some .int) "leftOf") = true := by decide +kernel
theorem am_D_36 : (cd_X7_common).all (am_okE2 cX7_common 7 (some .long) "common") = true := by decide +kernel
theorem am_D_37 : (cd_X7_put).all (am_okE2 cX7_put 7 (none) "put") = true := by decide +kernel
theorem am_D_38 : (cd_X7_times).all (am_okE2 cX7_times 7 (none) "times") = true := by decide +kernel
theorem am_D_39_0 : ((cd_X2_weighDraw.drop 0).take 60).all (am_okE2 cX2_weighDraw 2 (none) "weighDraw") = true := by decide +kernel
theorem am_D_39_1 : (cd_X2_weighDraw.drop 60).all (am_okE2 cX2_weighDraw 2 (none) "weighDraw") = true := by decide +kernel
theorem am_D_39 : (cd_X2_weighDraw).all (am_okE2 cX2_weighDraw 2 (none) "weighDraw") = true := am_all_app 60 am_D_39_0 (am_D_39_1)
theorem am_D_40 : (cd_X2_drawAll).all (am_okE2 cX2_drawAll 2 (none) "drawAll") = true := by decide +kernel
theorem am_D_41 : (cd_X2_weightShaken).all (am_okE2 cX2_weightShaken 2 (some .long) "weightShaken") = true := by decide +kernel
theorem am_D_42 : (cd_X2_weightHonest).all (am_okE2 cX2_weightHonest 2 (some .long) "weightHonest") = true := by decide +kernel
theorem am_D_43 : (cd_X2_doubtTo).all (am_okE2 cX2_doubtTo 2 (none) "doubtTo") = true := by decide +kernel
theorem am_D_44 : (cd_X2_eitherTo).all (am_okE2 cX2_eitherTo 2 (none) "eitherTo") = true := by decide +kernel
theorem am_D_45 : (cd_X7_divideBy).all (am_okE2 cX7_divideBy 7 (none) "divideBy") = true := by decide +kernel
theorem am_D_46 : (cd_X2_nextBlackTo).all (am_okE2 cX2_nextBlackTo 2 (none) "nextBlackTo") = true := by decide +kernel
theorem am_D_47 : (cd_X3_init).all (am_okE2 cX3_init 3 (none) "<init>") = true := by decide +kernel
theorem am_D_48 : (cd_X3_clear).all (am_okE2 cX3_clear 3 (none) "clear") = true := by decide +kernel
theorem am_D_49 : (cd_X3_keep).all (am_okE2 cX3_keep 3 (none) "keep") = true := by decide +kernel
theorem am_D_50 : (cd_X3_takeBack).all (am_okE2 cX3_takeBack 3 (some .boolean) "takeBack") = true := by decide +kernel
theorem am_D_51 : (cd_X3_addImage).all (am_okE2 cX3_addImage 3 (some .int) "addImage") = true := by decide +kernel
theorem am_D_52 : (cd_X3_goBack).all (am_okE2 cX3_goBack 3 (some .boolean) "goBack") = true := by decide +kernel
theorem am_D_53 : (cd_X4_init).all (am_okE2 cX4_init 4 (none) "<init>") = true := by decide +kernel
theorem am_D_54 : (cd_X4_clear).all (am_okE2 cX4_clear 4 (none) "clear") = true := by decide +kernel
theorem am_D_55_0 : ((cd_X4_addMan.drop 0).take 60).all (am_okE2 cX4_addMan 4 (none) "addMan") = true := by decide +kernel
theorem am_D_55_1 : (cd_X4_addMan.drop 60).all (am_okE2 cX4_addMan 4 (none) "addMan") = true := by decide +kernel
theorem am_D_55 : (cd_X4_addMan).all (am_okE2 cX4_addMan 4 (none) "addMan") = true := am_all_app 60 am_D_55_0 (am_D_55_1)
theorem am_D_56 : (cd_X5_init).all (am_okE2 cX5_init 5 (none) "<init>") = true := by decide +kernel
theorem am_D_57 : (cd_X11_isPart).all (am_okE2 cX11_isPart 11 (some .boolean) "isPart") = true := by decide +kernel
theorem am_D_58_0 : ((cd_X5_survey.drop 0).take 60).all (am_okE2 cX5_survey 5 (none) "survey") = true := by decide +kernel
theorem am_D_58_1 : (cd_X5_survey.drop 60).all (am_okE2 cX5_survey 5 (none) "survey") = true := by decide +kernel
theorem am_D_58 : (cd_X5_survey).all (am_okE2 cX5_survey 5 (none) "survey") = true := am_all_app 60 am_D_58_0 (am_D_58_1)
theorem am_D_59 : (cd_X5_countWay).all (am_okE2 cX5_countWay 5 (none) "countWay") = true := by decide +kernel
theorem am_D_60_0 : (((cd_X5_drawFrom 9999).drop 0).take 60).all (am_okE2 cX5_drawFrom 5 (none) "drawFrom") = true := by decide +kernel
theorem am_D_60_1 : ((cd_X5_drawFrom 9999).drop 60).all (am_okE2 cX5_drawFrom 5 (none) "drawFrom") = true := by decide +kernel
theorem am_D_60 : ((cd_X5_drawFrom 9999)).all (am_okE2 cX5_drawFrom 5 (none) "drawFrom") = true := am_all_app 60 am_D_60_0 (am_D_60_1)
theorem am_D_61_0 : (((cd_X5_drawFrom 60).drop 0).take 60).all (am_okE2 cX5_drawFrom 5 (none) "drawFrom") = true := by decide +kernel
theorem am_D_61_1 : ((cd_X5_drawFrom 60).drop 60).all (am_okE2 cX5_drawFrom 5 (none) "drawFrom") = true := by decide +kernel
theorem am_D_61 : ((cd_X5_drawFrom 60)).all (am_okE2 cX5_drawFrom 5 (none) "drawFrom") = true := am_all_app 60 am_D_61_0 (am_D_61_1)
theorem am_D_62_0 : (((cd_X5_drawFrom 61).drop 0).take 60).all (am_okE2 cX5_drawFrom 5 (none) "drawFrom") = true := by decide +kernel
theorem am_D_62_1 : ((cd_X5_drawFrom 61).drop 60).all (am_okE2 cX5_drawFrom 5 (none) "drawFrom") = true := by decide +kernel
theorem am_D_62 : ((cd_X5_drawFrom 61)).all (am_okE2 cX5_drawFrom 5 (none) "drawFrom") = true := am_all_app 60 am_D_62_0 (am_D_62_1)
theorem am_D_63_0 : (((cd_X5_drawFrom 62).drop 0).take 60).all (am_okE2 cX5_drawFrom 5 (none) "drawFrom") = true := by decide +kernel
theorem am_D_63_1 : ((cd_X5_drawFrom 62).drop 60).all (am_okE2 cX5_drawFrom 5 (none) "drawFrom") = true := by decide +kernel
theorem am_D_63 : ((cd_X5_drawFrom 62)).all (am_okE2 cX5_drawFrom 5 (none) "drawFrom") = true := am_all_app 60 am_D_63_0 (am_D_63_1)
theorem am_D_64_0 : ((cd_X5_chooseTens.drop 0).take 60).all (am_okE2 cX5_chooseTens 5 (none) "chooseTens") = true := by decide +kernel
theorem am_D_64_1 : (cd_X5_chooseTens.drop 60).all (am_okE2 cX5_chooseTens 5 (none) "chooseTens") = true := by decide +kernel
theorem am_D_64 : (cd_X5_chooseTens).all (am_okE2 cX5_chooseTens 5 (none) "chooseTens") = true := am_all_app 60 am_D_64_0 (am_D_64_1)
theorem am_D_65 : (cd_X6_begin).all (am_okE2 cX6_begin 6 (none) "begin") = true := by decide +kernel
theorem am_D_66 : (cd_X6_friendsTogether).all (am_okE2 cX6_friendsTogether 6 (some .int) "friendsTogether") = true := by decide +kernel
theorem am_D_67 : (cd_X7_part).all (am_okE2 cX7_part 7 (some .long) "part") = true := by decide +kernel
theorem am_D_68 : (cd_X10_init).all (am_okE2 cX10_init 10 (none) "<init>") = true := by decide +kernel
theorem am_D_69 : (cd_X8_init).all (am_okE2 cX8_init 8 (none) "<init>") = true := by decide +kernel
theorem am_D_70 : (cd_X8_handOver).all (am_okE2 cX8_handOver 8 (some (.object "TenthBean$Legion")) "handOver") = true := by decide +kernel
theorem am_D_71 : (cd_X10_standTogether).all (am_okE2 cX10_standTogether 10 (some .int) "standTogether") = true := by decide +kernel
theorem am_D_72_0 : ((cd_X10_step.drop 0).take 60).all (am_okE2 cX10_step 10 (none) "step") = true := by decide +kernel
theorem am_D_72_1 : (cd_X10_step.drop 60).all (am_okE2 cX10_step 10 (none) "step") = true := by decide +kernel
theorem am_D_72 : (cd_X10_step).all (am_okE2 cX10_step 10 (none) "step") = true := am_all_app 60 am_D_72_0 (am_D_72_1)
theorem am_D_73 : (cd_X10_begin).all (am_okE2 cX10_begin 10 (none) "begin") = true := by decide +kernel
theorem am_D_74 : (cd_X10_isWord).all (am_okE2 cX10_isWord 10 (some .boolean) "isWord") = true := by decide +kernel
theorem am_D_75 : (cd_X10_wordSort).all (am_okE2 cX10_wordSort 10 (some .int) "wordSort") = true := by decide +kernel
theorem am_D_76 : (cd_X8_behind).all (am_okE2 cX8_behind 8 (some .int) "behind") = true := by decide +kernel
theorem am_D_77_0 : ((cd_X8_faultOfLine.drop 0).take 60).all (am_okE2 cX8_faultOfLine 8 (some .int) "faultOfLine") = true := by decide +kernel
theorem am_D_77_1 : (cd_X8_faultOfLine.drop 60).all (am_okE2 cX8_faultOfLine 8 (some .int) "faultOfLine") = true := by decide +kernel
theorem am_D_77 : (cd_X8_faultOfLine).all (am_okE2 cX8_faultOfLine 8 (some .int) "faultOfLine") = true := am_all_app 60 am_D_77_0 (am_D_77_1)
