theorem am_D_0 : (am_code 0).all (am_okE 0) = true := by decide +kernel
theorem am_D_1 : (am_code 1).all (am_okE 1) = true := by decide +kernel
theorem am_D_2 : (am_code 2).all (am_okE 2) = true := by decide +kernel
theorem am_D_3 : (am_code 3).all (am_okE 3) = true := by decide +kernel
theorem am_D_4 : (am_code 4).all (am_okE 4) = true := by decide +kernel
theorem am_D_5 : (am_code 5).all (am_okE 5) = true := by decide +kernel
theorem am_D_6 : (am_code 6).all (am_okE 6) = true := by decide +kernel
theorem am_D_7 : (am_code 7).all (am_okE 7) = true := by decide +kernel
theorem am_D_8 : (am_code 8).all (am_okE 8) = true := by decide +kernel
theorem am_D_9 : (am_code 9).all (am_okE 9) = true := by decide +kernel
theorem am_D_10_0 : (((am_code 10).drop 0).take 60).all (am_okE 10) = true := by decide +kernel
theorem am_D_10_1 : ((am_code 10).drop 60).all (am_okE 10) = true := by decide +kernel
theorem am_D_10 : (am_code 10).all (am_okE 10) = true := am_all_app 60 am_D_10_0 (am_D_10_1)
theorem am_D_11 : (am_code 11).all (am_okE 11) = true := by decide +kernel
theorem am_D_12 : (am_code 12).all (am_okE 12) = true := by decide +kernel
theorem am_D_13 : (am_code 13).all (am_okE 13) = true := by decide +kernel
theorem am_D_14 : (am_code 14).all (am_okE 14) = true := by decide +kernel
theorem am_D_15_0 : (((am_code 15).drop 0).take 60).all (am_okE 15) = true := by decide +kernel
theorem am_D_15_1 : ((am_code 15).drop 60).all (am_okE 15) = true := by decide +kernel
theorem am_D_15 : (am_code 15).all (am_okE 15) = true := am_all_app 60 am_D_15_0 (am_D_15_1)
theorem am_D_16 : (am_code 16).all (am_okE 16) = true := by decide +kernel
theorem am_D_17 : (am_code 17).all (am_okE 17) = true := by decide +kernel
theorem am_D_18_0 : (((am_code 18).drop 0).take 60).all (am_okE 18) = true := by decide +kernel
theorem am_D_18_1 : ((am_code 18).drop 60).all (am_okE 18) = true := by decide +kernel
theorem am_D_18 : (am_code 18).all (am_okE 18) = true := am_all_app 60 am_D_18_0 (am_D_18_1)
theorem am_D_19 : (am_code 19).all (am_okE 19) = true := by decide +kernel
theorem am_D_20 : (am_code 20).all (am_okE 20) = true := by decide +kernel
theorem am_D_21 : (am_code 21).all (am_okE 21) = true := by decide +kernel
theorem am_D_22 : (am_code 22).all (am_okE 22) = true := by decide +kernel
theorem am_D_23 : (am_code 23).all (am_okE 23) = true := by decide +kernel
theorem am_D_24 : (am_code 24).all (am_okE 24) = true := by decide +kernel
theorem am_D_25 : (am_code 25).all (am_okE 25) = true := by decide +kernel
theorem am_D_26 : (am_code 26).all (am_okE 26) = true := by decide +kernel
theorem am_D_27 : (am_code 27).all (am_okE 27) = true := by decide +kernel
theorem am_D_28 : (am_code 28).all (am_okE 28) = true := by decide +kernel
theorem am_D_29 : (am_code 29).all (am_okE 29) = true := by decide +kernel
theorem am_D_30 : (am_code 30).all (am_okE 30) = true := by decide +kernel
theorem am_D_31 : (am_code 31).all (am_okE 31) = true := by decide +kernel
theorem am_D_32 : (am_code 32).all (am_okE 32) = true := by decide +kernel
theorem am_D_33 : (am_code 33).all (am_okE 33) = true := by decide +kernel
theorem am_D_34 : (am_code 34).all (am_okE 34) = true := by decide +kernel
theorem am_D_35 : (am_code 35).all (am_okE 35) = true := by decide +kernel
theorem am_D_36 : (am_code 36).all (am_okE 36) = true := by decide +kernel
theorem am_D_37 : (am_code 37).all (am_okE 37) = true := by decide +kernel
theorem am_D_38 : (am_code 38).all (am_okE 38) = true := by decide +kernel
theorem am_D_39_0 : (((am_code 39).drop 0).take 60).all (am_okE 39) = true := by decide +kernel
theorem am_D_39_1 : ((am_code 39).drop 60).all (am_okE 39) = true := by decide +kernel
theorem am_D_39 : (am_code 39).all (am_okE 39) = true := am_all_app 60 am_D_39_0 (am_D_39_1)
theorem am_D_40 : (am_code 40).all (am_okE 40) = true := by decide +kernel
theorem am_D_41 : (am_code 41).all (am_okE 41) = true := by decide +kernel
theorem am_D_42 : (am_code 42).all (am_okE 42) = true := by decide +kernel
theorem am_D_43 : (am_code 43).all (am_okE 43) = true := by decide +kernel
theorem am_D_44 : (am_code 44).all (am_okE 44) = true := by decide +kernel
theorem am_D_45 : (am_code 45).all (am_okE 45) = true := by decide +kernel
theorem am_D_46 : (am_code 46).all (am_okE 46) = true := by decide +kernel
theorem am_D_47 : (am_code 47).all (am_okE 47) = true := by decide +kernel
theorem am_D_48 : (am_code 48).all (am_okE 48) = true := by decide +kernel
theorem am_D_49 : (am_code 49).all (am_okE 49) = true := by decide +kernel
theorem am_D_50 : (am_code 50).all (am_okE 50) = true := by decide +kernel
theorem am_D_51 : (am_code 51).all (am_okE 51) = true := by decide +kernel
theorem am_D_52 : (am_code 52).all (am_okE 52) = true := by decide +kernel
theorem am_D_53 : (am_code 53).all (am_okE 53) = true := by decide +kernel
theorem am_D_54 : (am_code 54).all (am_okE 54) = true := by decide +kernel
theorem am_D_55_0 : (((am_code 55).drop 0).take 60).all (am_okE 55) = true := by decide +kernel
theorem am_D_55_1 : ((am_code 55).drop 60).all (am_okE 55) = true := by decide +kernel
theorem am_D_55 : (am_code 55).all (am_okE 55) = true := am_all_app 60 am_D_55_0 (am_D_55_1)
theorem am_D_56 : (am_code 56).all (am_okE 56) = true := by decide +kernel
theorem am_D_57 : (am_code 57).all (am_okE 57) = true := by decide +kernel
theorem am_D_58_0 : (((am_code 58).drop 0).take 60).all (am_okE 58) = true := by decide +kernel
theorem am_D_58_1 : ((am_code 58).drop 60).all (am_okE 58) = true := by decide +kernel
theorem am_D_58 : (am_code 58).all (am_okE 58) = true := am_all_app 60 am_D_58_0 (am_D_58_1)
theorem am_D_59 : (am_code 59).all (am_okE 59) = true := by decide +kernel
theorem am_D_60_0 : (((am_code 60).drop 0).take 60).all (am_okE 60) = true := by decide +kernel
theorem am_D_60_1 : ((am_code 60).drop 60).all (am_okE 60) = true := by decide +kernel
theorem am_D_60 : (am_code 60).all (am_okE 60) = true := am_all_app 60 am_D_60_0 (am_D_60_1)
theorem am_D_61_0 : (((am_code 61).drop 0).take 60).all (am_okE 61) = true := by decide +kernel
theorem am_D_61_1 : ((am_code 61).drop 60).all (am_okE 61) = true := by decide +kernel
theorem am_D_61 : (am_code 61).all (am_okE 61) = true := am_all_app 60 am_D_61_0 (am_D_61_1)
theorem am_D_62_0 : (((am_code 62).drop 0).take 60).all (am_okE 62) = true := by decide +kernel
theorem am_D_62_1 : ((am_code 62).drop 60).all (am_okE 62) = true := by decide +kernel
theorem am_D_62 : (am_code 62).all (am_okE 62) = true := am_all_app 60 am_D_62_0 (am_D_62_1)
theorem am_D_63_0 : (((am_code 63).drop 0).take 60).all (am_okE 63) = true := by decide +kernel
theorem am_D_63_1 : ((am_code 63).drop 60).all (am_okE 63) = true := by decide +kernel
theorem am_D_63 : (am_code 63).all (am_okE 63) = true := am_all_app 60 am_D_63_0 (am_D_63_1)
theorem am_D_64_0 : (((am_code 64).drop 0).take 60).all (am_okE 64) = true := by decide +kernel
theorem am_D_64_1 : ((am_code 64).drop 60).all (am_okE 64) = true := by decide +kernel
theorem am_D_64 : (am_code 64).all (am_okE 64) = true := am_all_app 60 am_D_64_0 (am_D_64_1)
theorem am_D_65 : (am_code 65).all (am_okE 65) = true := by decide +kernel
theorem am_D_66 : (am_code 66).all (am_okE 66) = true := by decide +kernel
theorem am_D_67 : (am_code 67).all (am_okE 67) = true := by decide +kernel
theorem am_D_68 : (am_code 68).all (am_okE 68) = true := by decide +kernel
theorem am_D_69 : (am_code 69).all (am_okE 69) = true := by decide +kernel
theorem am_D_70 : (am_code 70).all (am_okE 70) = true := by decide +kernel
theorem am_D_71 : (am_code 71).all (am_okE 71) = true := by decide +kernel
theorem am_D_72_0 : (((am_code 72).drop 0).take 60).all (am_okE 72) = true := by decide +kernel
theorem am_D_72_1 : ((am_code 72).drop 60).all (am_okE 72) = true := by decide +kernel
theorem am_D_72 : (am_code 72).all (am_okE 72) = true := am_all_app 60 am_D_72_0 (am_D_72_1)
theorem am_D_73 : (am_code 73).all (am_okE 73) = true := by decide +kernel
theorem am_D_74 : (am_code 74).all (am_okE 74) = true := by decide +kernel
theorem am_D_75 : (am_code 75).all (am_okE 75) = true := by decide +kernel
theorem am_D_76 : (am_code 76).all (am_okE 76) = true := by decide +kernel
theorem am_D_77_0 : (((am_code 77).drop 0).take 60).all (am_okE 77) = true := by decide +kernel
theorem am_D_77_1 : ((am_code 77).drop 60).all (am_okE 77) = true := by decide +kernel
theorem am_D_77 : (am_code 77).all (am_okE 77) = true := am_all_app 60 am_D_77_0 (am_D_77_1)
