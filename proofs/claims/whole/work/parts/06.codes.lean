set_option maxRecDepth 100000 in
theorem mc_0 : lw_tbl[441]? = some (.code (MNM 0) (MBY 0) (MLN 0) (RTY (MRT 0))) := rfl
set_option maxRecDepth 100000 in
theorem mc_1 : lw_tbl[1139]? = some (.code (MNM 1) (MBY 1) (MLN 1) (RTY (MRT 1))) := rfl
set_option maxRecDepth 100000 in
theorem mc_2 : lw_tbl[1166]? = some (.code (MNM 2) (MBY 2) (MLN 2) (RTY (MRT 2))) := rfl
set_option maxRecDepth 100000 in
theorem mc_3 : lw_tbl[1176]? = some (.code (MNM 3) (MBY 3) (MLN 3) (RTY (MRT 3))) := rfl
set_option maxRecDepth 100000 in
theorem mc_4 : lw_tbl[1162]? = some (.code (MNM 4) (MBY 4) (MLN 4) (RTY (MRT 4))) := rfl
set_option maxRecDepth 100000 in
theorem mc_5 : lw_tbl[1196]? = some (.code (MNM 5) (MBY 5) (MLN 5) (RTY (MRT 5))) := rfl
set_option maxRecDepth 100000 in
theorem mc_6 : lw_tbl[1205]? = some (.code (MNM 6) (MBY 6) (MLN 6) (RTY (MRT 6))) := rfl
set_option maxRecDepth 100000 in
theorem mc_7 : lw_tbl[1209]? = some (.code (MNM 7) (MBY 7) (MLN 7) (RTY (MRT 7))) := rfl
set_option maxRecDepth 100000 in
theorem mc_8 : lw_tbl[1200]? = some (.code (MNM 8) (MBY 8) (MLN 8) (RTY (MRT 8))) := rfl
set_option maxRecDepth 100000 in
theorem mc_9 : lw_tbl[182]? = some (.code (MNM 9) (MBY 9) (MLN 9) (RTY (MRT 9))) := rfl
set_option maxRecDepth 100000 in
theorem mc_10 : lw_tbl[943]? = some (.code (MNM 10) (MBY 10) (MLN 10) (RTY (MRT 10))) := rfl
set_option maxRecDepth 100000 in
theorem mc_11 : lw_tbl[857]? = some (.code (MNM 11) (MBY 11) (MLN 11) (RTY (MRT 11))) := rfl
set_option maxRecDepth 100000 in
theorem mc_12 : lw_tbl[957]? = some (.code (MNM 12) (MBY 12) (MLN 12) (RTY (MRT 12))) := rfl
set_option maxRecDepth 100000 in
theorem mc_13 : lw_tbl[1184]? = some (.code (MNM 13) (MBY 13) (MLN 13) (RTY (MRT 13))) := rfl
set_option maxRecDepth 100000 in
theorem mc_14 : lw_tbl[861]? = some (.code (MNM 14) (MBY 14) (MLN 14) (RTY (MRT 14))) := rfl
set_option maxRecDepth 100000 in
theorem mc_15 : lw_tbl[962]? = some (.code (MNM 15) (MBY 15) (MLN 15) (RTY (MRT 15))) := rfl
set_option maxRecDepth 100000 in
theorem mc_16 : lw_tbl[831]? = some (.code (MNM 16) (MBY 16) (MLN 16) (RTY (MRT 16))) := rfl
set_option maxRecDepth 100000 in
theorem mc_17 : lw_tbl[918]? = some (.code (MNM 17) (MBY 17) (MLN 17) (RTY (MRT 17))) := rfl
set_option maxRecDepth 100000 in
theorem mc_18 : lw_tbl[912]? = some (.code (MNM 18) (MBY 18) (MLN 18) (RTY (MRT 18))) := rfl
set_option maxRecDepth 100000 in
theorem mc_19 : lw_tbl[930]? = some (.code (MNM 19) (MBY 19) (MLN 19) (RTY (MRT 19))) := rfl
set_option maxRecDepth 100000 in
theorem mc_20 : lw_tbl[322]? = some (.code (MNM 20) (MBY 20) (MLN 20) (RTY (MRT 20))) := rfl
set_option maxRecDepth 100000 in
theorem mc_21 : lw_tbl[842]? = some (.code (MNM 21) (MBY 21) (MLN 21) (RTY (MRT 21))) := rfl
set_option maxRecDepth 100000 in
theorem mc_22 : lw_tbl[847]? = some (.code (MNM 22) (MBY 22) (MLN 22) (RTY (MRT 22))) := rfl
set_option maxRecDepth 100000 in
theorem mc_23 : lw_tbl[922]? = some (.code (MNM 23) (MBY 23) (MLN 23) (RTY (MRT 23))) := rfl
set_option maxRecDepth 100000 in
theorem mc_24 : lw_tbl[967]? = some (.code (MNM 24) (MBY 24) (MLN 24) (RTY (MRT 24))) := rfl
set_option maxRecDepth 100000 in
theorem mc_25 : lw_tbl[1112]? = some (.code (MNM 25) (MBY 25) (MLN 25) (RTY (MRT 25))) := rfl
set_option maxRecDepth 100000 in
theorem mc_26 : lw_tbl[1116]? = some (.code (MNM 26) (MBY 26) (MLN 26) (RTY (MRT 26))) := rfl
set_option maxRecDepth 100000 in
theorem mc_27 : lw_tbl[926]? = some (.code (MNM 27) (MBY 27) (MLN 27) (RTY (MRT 27))) := rfl
set_option maxRecDepth 100000 in
theorem mc_28 : lw_tbl[852]? = some (.code (MNM 28) (MBY 28) (MLN 28) (RTY (MRT 28))) := rfl
set_option maxRecDepth 100000 in
theorem mc_29 : lw_tbl[873]? = some (.code (MNM 29) (MBY 29) (MLN 29) (RTY (MRT 29))) := rfl
set_option maxRecDepth 100000 in
theorem mc_30 : lw_tbl[908]? = some (.code (MNM 30) (MBY 30) (MLN 30) (RTY (MRT 30))) := rfl
set_option maxRecDepth 100000 in
theorem mc_31 : lw_tbl[398]? = some (.code (MNM 31) (MBY 31) (MLN 31) (RTY (MRT 31))) := rfl
set_option maxRecDepth 100000 in
theorem mc_32 : lw_tbl[1055]? = some (.code (MNM 32) (MBY 32) (MLN 32) (RTY (MRT 32))) := rfl
set_option maxRecDepth 100000 in
theorem mc_33 : lw_tbl[1060]? = some (.code (MNM 33) (MBY 33) (MLN 33) (RTY (MRT 33))) := rfl
set_option maxRecDepth 100000 in
theorem mc_34 : lw_tbl[1066]? = some (.code (MNM 34) (MBY 34) (MLN 34) (RTY (MRT 34))) := rfl
set_option maxRecDepth 100000 in
theorem mc_35 : lw_tbl[1074]? = some (.code (MNM 35) (MBY 35) (MLN 35) (RTY (MRT 35))) := rfl
set_option maxRecDepth 100000 in
theorem mc_36 : lw_tbl[1217]? = some (.code (MNM 36) (MBY 36) (MLN 36) (RTY (MRT 36))) := rfl
set_option maxRecDepth 100000 in
theorem mc_37 : lw_tbl[1244]? = some (.code (MNM 37) (MBY 37) (MLN 37) (RTY (MRT 37))) := rfl
set_option maxRecDepth 100000 in
theorem mc_38 : lw_tbl[1222]? = some (.code (MNM 38) (MBY 38) (MLN 38) (RTY (MRT 38))) := rfl
set_option maxRecDepth 100000 in
theorem mc_39 : lw_tbl[1226]? = some (.code (MNM 39) (MBY 39) (MLN 39) (RTY (MRT 39))) := rfl
set_option maxRecDepth 100000 in
theorem mc_40 : lw_tbl[1230]? = some (.code (MNM 40) (MBY 40) (MLN 40) (RTY (MRT 40))) := rfl
set_option maxRecDepth 100000 in
theorem mc_41 : lw_tbl[1235]? = some (.code (MNM 41) (MBY 41) (MLN 41) (RTY (MRT 41))) := rfl
set_option maxRecDepth 100000 in
theorem mc_42 : lw_tbl[1239]? = some (.code (MNM 42) (MBY 42) (MLN 42) (RTY (MRT 42))) := rfl
set_option maxRecDepth 100000 in
theorem mc_43 : lw_tbl[307]? = some (.code (MNM 43) (MBY 43) (MLN 43) (RTY (MRT 43))) := rfl
set_option maxRecDepth 100000 in
theorem mc_44 : lw_tbl[881]? = some (.code (MNM 44) (MBY 44) (MLN 44) (RTY (MRT 44))) := rfl
set_option maxRecDepth 100000 in
theorem mc_45 : lw_tbl[902]? = some (.code (MNM 45) (MBY 45) (MLN 45) (RTY (MRT 45))) := rfl
set_option maxRecDepth 100000 in
theorem mc_46 : lw_tbl[886]? = some (.code (MNM 46) (MBY 46) (MLN 46) (RTY (MRT 46))) := rfl
set_option maxRecDepth 100000 in
theorem mc_47 : lw_tbl[892]? = some (.code (MNM 47) (MBY 47) (MLN 47) (RTY (MRT 47))) := rfl
set_option maxRecDepth 100000 in
theorem mc_48 : lw_tbl[895]? = some (.code (MNM 48) (MBY 48) (MLN 48) (RTY (MRT 48))) := rfl
set_option maxRecDepth 100000 in
theorem mc_49 : lw_tbl[898]? = some (.code (MNM 49) (MBY 49) (MLN 49) (RTY (MRT 49))) := rfl
set_option maxRecDepth 100000 in
theorem mc_50 : lw_tbl[151]? = some (.code (MNM 50) (MBY 50) (MLN 50) (RTY (MRT 50))) := rfl
set_option maxRecDepth 100000 in
theorem mc_51 : lw_tbl[554]? = some (.code (MNM 51) (MBY 51) (MLN 51) (RTY (MRT 51))) := rfl
set_option maxRecDepth 100000 in
theorem mc_52 : lw_tbl[815]? = some (.code (MNM 52) (MBY 52) (MLN 52) (RTY (MRT 52))) := rfl
set_option maxRecDepth 100000 in
theorem mc_53 : lw_tbl[869]? = some (.code (MNM 53) (MBY 53) (MLN 53) (RTY (MRT 53))) := rfl
set_option maxRecDepth 100000 in
theorem mc_54 : lw_tbl[865]? = some (.code (MNM 54) (MBY 54) (MLN 54) (RTY (MRT 54))) := rfl
set_option maxRecDepth 100000 in
theorem mc_55 : lw_tbl[1278]? = some (.code (MNM 55) (MBY 55) (MLN 55) (RTY (MRT 55))) := rfl
set_option maxRecDepth 100000 in
theorem mc_56 : lw_tbl[562]? = some (.code (MNM 56) (MBY 56) (MLN 56) (RTY (MRT 56))) := rfl
set_option maxRecDepth 100000 in
theorem mc_57 : lw_tbl[981]? = some (.code (MNM 57) (MBY 57) (MLN 57) (RTY (MRT 57))) := rfl
set_option maxRecDepth 100000 in
theorem mc_58 : lw_tbl[1037]? = some (.code (MNM 58) (MBY 58) (MLN 58) (RTY (MRT 58))) := rfl
set_option maxRecDepth 100000 in
theorem mc_59 : lw_tbl[1033]? = some (.code (MNM 59) (MBY 59) (MLN 59) (RTY (MRT 59))) := rfl
set_option maxRecDepth 100000 in
theorem mc_60 : lw_tbl[1029]? = some (.code (MNM 60) (MBY 60) (MLN 60) (RTY (MRT 60))) := rfl
set_option maxRecDepth 100000 in
theorem mc_61 : lw_tbl[268]? = some (.code (MNM 61) (MBY 61) (MLN 61) (RTY (MRT 61))) := rfl
set_option maxRecDepth 100000 in
theorem mc_62 : lw_tbl[591]? = some (.code (MNM 62) (MBY 62) (MLN 62) (RTY (MRT 62))) := rfl
set_option maxRecDepth 100000 in
theorem mc_63 : lw_tbl[1130]? = some (.code (MNM 63) (MBY 63) (MLN 63) (RTY (MRT 63))) := rfl
set_option maxRecDepth 100000 in
theorem mc_64 : lw_tbl[603]? = some (.code (MNM 64) (MBY 64) (MLN 64) (RTY (MRT 64))) := rfl
set_option maxRecDepth 100000 in
theorem mc_65 : lw_tbl[755]? = some (.code (MNM 65) (MBY 65) (MLN 65) (RTY (MRT 65))) := rfl
set_option maxRecDepth 100000 in
theorem mc_66 : lw_tbl[759]? = some (.code (MNM 66) (MBY 66) (MLN 66) (RTY (MRT 66))) := rfl
set_option maxRecDepth 100000 in
theorem mc_67 : lw_tbl[763]? = some (.code (MNM 67) (MBY 67) (MLN 67) (RTY (MRT 67))) := rfl
set_option maxRecDepth 100000 in
theorem mc_68 : lw_tbl[767]? = some (.code (MNM 68) (MBY 68) (MLN 68) (RTY (MRT 68))) := rfl
set_option maxRecDepth 100000 in
theorem mc_69 : lw_tbl[771]? = some (.code (MNM 69) (MBY 69) (MLN 69) (RTY (MRT 69))) := rfl
set_option maxRecDepth 100000 in
theorem mc_70 : lw_tbl[623]? = some (.code (MNM 70) (MBY 70) (MLN 70) (RTY (MRT 70))) := rfl
set_option maxRecDepth 100000 in
theorem mc_71 : lw_tbl[627]? = some (.code (MNM 71) (MBY 71) (MLN 71) (RTY (MRT 71))) := rfl
set_option maxRecDepth 100000 in
theorem mc_72 : lw_tbl[631]? = some (.code (MNM 72) (MBY 72) (MLN 72) (RTY (MRT 72))) := rfl
set_option maxRecDepth 100000 in
theorem mc_73 : lw_tbl[747]? = some (.code (MNM 73) (MBY 73) (MLN 73) (RTY (MRT 73))) := rfl
set_option maxRecDepth 100000 in
theorem mc_74 : lw_tbl[744]? = some (.code (MNM 74) (MBY 74) (MLN 74) (RTY (MRT 74))) := rfl
set_option maxRecDepth 100000 in
theorem mc_75 : lw_tbl[227]? = some (.code (MNM 75) (MBY 75) (MLN 75) (RTY (MRT 75))) := rfl
set_option maxRecDepth 100000 in
theorem mc_76 : lw_tbl[788]? = some (.code (MNM 76) (MBY 76) (MLN 76) (RTY (MRT 76))) := rfl
set_option maxRecDepth 100000 in
theorem mc_77 : lw_tbl[599]? = some (.code (MNM 77) (MBY 77) (MLN 77) (RTY (MRT 77))) := rfl
set_option maxRecDepth 100000 in
theorem mc_78 : lw_tbl[650]? = some (.code (MNM 78) (MBY 78) (MLN 78) (RTY (MRT 78))) := rfl
set_option maxRecDepth 100000 in
theorem mc_79 : lw_tbl[775]? = some (.code (MNM 79) (MBY 79) (MLN 79) (RTY (MRT 79))) := rfl
set_option maxRecDepth 100000 in
theorem mc_80 : lw_tbl[619]? = some (.code (MNM 80) (MBY 80) (MLN 80) (RTY (MRT 80))) := rfl
set_option maxRecDepth 100000 in
theorem mc_81 : lw_tbl[751]? = some (.code (MNM 81) (MBY 81) (MLN 81) (RTY (MRT 81))) := rfl
set_option maxRecDepth 100000 in
theorem mc_82 : lw_tbl[780]? = some (.code (MNM 82) (MBY 82) (MLN 82) (RTY (MRT 82))) := rfl
set_option maxRecDepth 100000 in
theorem mc_83 : lw_tbl[877]? = some (.code (MNM 83) (MBY 83) (MLN 83) (RTY (MRT 83))) := rfl
set_option maxRecDepth 100000 in
theorem mc_84 : lw_tbl[281]? = some (.code (MNM 84) (MBY 84) (MLN 84) (RTY (MRT 84))) := rfl
set_option maxRecDepth 100000 in
theorem mc_85 : lw_tbl[801]? = some (.code (MNM 85) (MBY 85) (MLN 85) (RTY (MRT 85))) := rfl
set_option maxRecDepth 100000 in
theorem mc_86 : lw_tbl[827]? = some (.code (MNM 86) (MBY 86) (MLN 86) (RTY (MRT 86))) := rfl
set_option maxRecDepth 100000 in
theorem mc_87 : lw_tbl[806]? = some (.code (MNM 87) (MBY 87) (MLN 87) (RTY (MRT 87))) := rfl
set_option maxRecDepth 100000 in
theorem mc_88 : lw_tbl[819]? = some (.code (MNM 88) (MBY 88) (MLN 88) (RTY (MRT 88))) := rfl
set_option maxRecDepth 100000 in
theorem mc_89 : lw_tbl[365]? = some (.code (MNM 89) (MBY 89) (MLN 89) (RTY (MRT 89))) := rfl
set_option maxRecDepth 100000 in
theorem mc_90 : lw_tbl[998]? = some (.code (MNM 90) (MBY 90) (MLN 90) (RTY (MRT 90))) := rfl
set_option maxRecDepth 100000 in
theorem mc_91 : lw_tbl[976]? = some (.code (MNM 91) (MBY 91) (MLN 91) (RTY (MRT 91))) := rfl
set_option maxRecDepth 100000 in
theorem mc_92 : lw_tbl[985]? = some (.code (MNM 92) (MBY 92) (MLN 92) (RTY (MRT 92))) := rfl
set_option maxRecDepth 100000 in
theorem mc_93 : lw_tbl[990]? = some (.code (MNM 93) (MBY 93) (MLN 93) (RTY (MRT 93))) := rfl
set_option maxRecDepth 100000 in
theorem mc_94 : lw_tbl[994]? = some (.code (MNM 94) (MBY 94) (MLN 94) (RTY (MRT 94))) := rfl
set_option maxRecDepth 100000 in
theorem mc_95 : lw_tbl[1002]? = some (.code (MNM 95) (MBY 95) (MLN 95) (RTY (MRT 95))) := rfl
set_option maxRecDepth 100000 in
theorem mc_96 : lw_tbl[1011]? = some (.code (MNM 96) (MBY 96) (MLN 96) (RTY (MRT 96))) := rfl
set_option maxRecDepth 100000 in
theorem mc_97 : lw_tbl[1021]? = some (.code (MNM 97) (MBY 97) (MLN 97) (RTY (MRT 97))) := rfl
set_option maxRecDepth 100000 in
theorem mc_98 : lw_tbl[1082]? = some (.code (MNM 98) (MBY 98) (MLN 98) (RTY (MRT 98))) := rfl
set_option maxRecDepth 100000 in
theorem mc_99 : lw_tbl[1089]? = some (.code (MNM 99) (MBY 99) (MLN 99) (RTY (MRT 99))) := rfl
set_option maxRecDepth 100000 in
theorem mc_100 : lw_tbl[1097]? = some (.code (MNM 100) (MBY 100) (MLN 100) (RTY (MRT 100))) := rfl
set_option maxRecDepth 100000 in
theorem mc_101 : lw_tbl[1101]? = some (.code (MNM 101) (MBY 101) (MLN 101) (RTY (MRT 101))) := rfl
set_option maxRecDepth 100000 in
theorem mc_102 : lw_tbl[1092]? = some (.code (MNM 102) (MBY 102) (MLN 102) (RTY (MRT 102))) := rfl
set_option maxRecDepth 100000 in
theorem mc_103 : lw_tbl[127]? = some (.code (MNM 103) (MBY 103) (MLN 103) (RTY (MRT 103))) := rfl
set_option maxRecDepth 100000 in
theorem mc_104 : lw_tbl[578]? = some (.code (MNM 104) (MBY 104) (MLN 104) (RTY (MRT 104))) := rfl
set_option maxRecDepth 100000 in
theorem mc_105 : lw_tbl[586]? = some (.code (MNM 105) (MBY 105) (MLN 105) (RTY (MRT 105))) := rfl
set_option maxRecDepth 100000 in
theorem mc_106 : lw_tbl[1270]? = some (.code (MNM 106) (MBY 106) (MLN 106) (RTY (MRT 106))) := rfl
set_option maxRecDepth 100000 in
theorem mc_107 : lw_tbl[595]? = some (.code (MNM 107) (MBY 107) (MLN 107) (RTY (MRT 107))) := rfl
set_option maxRecDepth 100000 in
theorem mc_108 : lw_tbl[784]? = some (.code (MNM 108) (MBY 108) (MLN 108) (RTY (MRT 108))) := rfl
set_option maxRecDepth 100000 in
theorem mc_109 : lw_tbl[654]? = some (.code (MNM 109) (MBY 109) (MLN 109) (RTY (MRT 109))) := rfl
set_option maxRecDepth 100000 in
theorem mc_110 : lw_tbl[607]? = some (.code (MNM 110) (MBY 110) (MLN 110) (RTY (MRT 110))) := rfl
set_option maxRecDepth 100000 in
theorem mc_111 : lw_tbl[641]? = some (.code (MNM 111) (MBY 111) (MLN 111) (RTY (MRT 111))) := rfl
set_option maxRecDepth 100000 in
theorem mc_112 : lw_tbl[615]? = some (.code (MNM 112) (MBY 112) (MLN 112) (RTY (MRT 112))) := rfl
set_option maxRecDepth 100000 in
theorem mc_113 : lw_tbl[635]? = some (.code (MNM 113) (MBY 113) (MLN 113) (RTY (MRT 113))) := rfl
set_option maxRecDepth 100000 in
theorem mc_114 : lw_tbl[645]? = some (.code (MNM 114) (MBY 114) (MLN 114) (RTY (MRT 114))) := rfl
set_option maxRecDepth 100000 in
theorem mc_115 : lw_tbl[611]? = some (.code (MNM 115) (MBY 115) (MLN 115) (RTY (MRT 115))) := rfl
set_option maxRecDepth 100000 in
theorem mc_116 : lw_tbl[119]? = some (.code (MNM 116) (MBY 116) (MLN 116) (RTY (MRT 116))) := rfl
set_option maxRecDepth 100000 in
theorem mc_117 : lw_tbl[543]? = some (.code (MNM 117) (MBY 117) (MLN 117) (RTY (MRT 117))) := rfl
set_option maxRecDepth 100000 in
theorem mc_118 : lw_tbl[550]? = some (.code (MNM 118) (MBY 118) (MLN 118) (RTY (MRT 118))) := rfl
set_option maxRecDepth 100000 in
theorem mc_119 : lw_tbl[566]? = some (.code (MNM 119) (MBY 119) (MLN 119) (RTY (MRT 119))) := rfl
set_option maxRecDepth 100000 in
theorem mc_120 : lw_tbl[570]? = some (.code (MNM 120) (MBY 120) (MLN 120) (RTY (MRT 120))) := rfl
set_option maxRecDepth 100000 in
theorem mc_121 : lw_tbl[574]? = some (.code (MNM 121) (MBY 121) (MLN 121) (RTY (MRT 121))) := rfl
set_option maxRecDepth 100000 in
theorem mc_122 : lw_tbl[582]? = some (.code (MNM 122) (MBY 122) (MLN 122) (RTY (MRT 122))) := rfl
set_option maxRecDepth 100000 in
theorem mc_123 : lw_tbl[797]? = some (.code (MNM 123) (MBY 123) (MLN 123) (RTY (MRT 123))) := rfl
set_option maxRecDepth 100000 in
theorem mc_124 : lw_tbl[838]? = some (.code (MNM 124) (MBY 124) (MLN 124) (RTY (MRT 124))) := rfl
set_option maxRecDepth 100000 in
theorem mc_125 : lw_tbl[938]? = some (.code (MNM 125) (MBY 125) (MLN 125) (RTY (MRT 125))) := rfl
set_option maxRecDepth 100000 in
theorem mc_126 : lw_tbl[948]? = some (.code (MNM 126) (MBY 126) (MLN 126) (RTY (MRT 126))) := rfl
set_option maxRecDepth 100000 in
theorem mc_127 : lw_tbl[953]? = some (.code (MNM 127) (MBY 127) (MLN 127) (RTY (MRT 127))) := rfl
set_option maxRecDepth 100000 in
theorem mc_128 : lw_tbl[972]? = some (.code (MNM 128) (MBY 128) (MLN 128) (RTY (MRT 128))) := rfl
set_option maxRecDepth 100000 in
theorem mc_129 : lw_tbl[1007]? = some (.code (MNM 129) (MBY 129) (MLN 129) (RTY (MRT 129))) := rfl
set_option maxRecDepth 100000 in
theorem mc_130 : lw_tbl[1017]? = some (.code (MNM 130) (MBY 130) (MLN 130) (RTY (MRT 130))) := rfl
set_option maxRecDepth 100000 in
theorem mc_131 : lw_tbl[1025]? = some (.code (MNM 131) (MBY 131) (MLN 131) (RTY (MRT 131))) := rfl
set_option maxRecDepth 100000 in
theorem mc_132 : lw_tbl[1042]? = some (.code (MNM 132) (MBY 132) (MLN 132) (RTY (MRT 132))) := rfl
set_option maxRecDepth 100000 in
theorem mc_133 : lw_tbl[1078]? = some (.code (MNM 133) (MBY 133) (MLN 133) (RTY (MRT 133))) := rfl
set_option maxRecDepth 100000 in
theorem mc_134 : lw_tbl[1108]? = some (.code (MNM 134) (MBY 134) (MLN 134) (RTY (MRT 134))) := rfl
set_option maxRecDepth 100000 in
theorem mc_135 : lw_tbl[1122]? = some (.code (MNM 135) (MBY 135) (MLN 135) (RTY (MRT 135))) := rfl
set_option maxRecDepth 100000 in
theorem mc_136 : lw_tbl[1126]? = some (.code (MNM 136) (MBY 136) (MLN 136) (RTY (MRT 136))) := rfl
set_option maxRecDepth 100000 in
theorem mc_137 : lw_tbl[1146]? = some (.code (MNM 137) (MBY 137) (MLN 137) (RTY (MRT 137))) := rfl
set_option maxRecDepth 100000 in
theorem mc_138 : lw_tbl[1150]? = some (.code (MNM 138) (MBY 138) (MLN 138) (RTY (MRT 138))) := rfl
set_option maxRecDepth 100000 in
theorem mc_139 : lw_tbl[1158]? = some (.code (MNM 139) (MBY 139) (MLN 139) (RTY (MRT 139))) := rfl
set_option maxRecDepth 100000 in
theorem mc_140 : lw_tbl[1171]? = some (.code (MNM 140) (MBY 140) (MLN 140) (RTY (MRT 140))) := rfl
set_option maxRecDepth 100000 in
theorem mc_141 : lw_tbl[1180]? = some (.code (MNM 141) (MBY 141) (MLN 141) (RTY (MRT 141))) := rfl
set_option maxRecDepth 100000 in
theorem mc_142 : lw_tbl[1188]? = some (.code (MNM 142) (MBY 142) (MLN 142) (RTY (MRT 142))) := rfl
set_option maxRecDepth 100000 in
theorem mc_143 : lw_tbl[1192]? = some (.code (MNM 143) (MBY 143) (MLN 143) (RTY (MRT 143))) := rfl
set_option maxRecDepth 100000 in
theorem mc_144 : lw_tbl[1213]? = some (.code (MNM 144) (MBY 144) (MLN 144) (RTY (MRT 144))) := rfl
set_option maxRecDepth 100000 in
theorem mc_145 : lw_tbl[1248]? = some (.code (MNM 145) (MBY 145) (MLN 145) (RTY (MRT 145))) := rfl
set_option maxRecDepth 100000 in
theorem mc_146 : lw_tbl[1253]? = some (.code (MNM 146) (MBY 146) (MLN 146) (RTY (MRT 146))) := rfl
set_option maxRecDepth 100000 in
theorem mc_147 : lw_tbl[1258]? = some (.code (MNM 147) (MBY 147) (MLN 147) (RTY (MRT 147))) := rfl
set_option maxRecDepth 100000 in
theorem mc_148 : lw_tbl[1262]? = some (.code (MNM 148) (MBY 148) (MLN 148) (RTY (MRT 148))) := rfl
set_option maxRecDepth 100000 in
theorem mc_149 : lw_tbl[1266]? = some (.code (MNM 149) (MBY 149) (MLN 149) (RTY (MRT 149))) := rfl
set_option maxRecDepth 100000 in
theorem mc_150 : lw_tbl[1274]? = some (.code (MNM 150) (MBY 150) (MLN 150) (RTY (MRT 150))) := rfl
set_option maxRecDepth 100000 in
theorem mc_151 : lw_tbl[1134]? = some (.code (MNM 151) (MBY 151) (MLN 151) (RTY (MRT 151))) := rfl
set_option maxRecDepth 100000 in
theorem mc_152 : lw_tbl[1154]? = some (.code (MNM 152) (MBY 152) (MLN 152) (RTY (MRT 152))) := rfl
set_option maxRecDepth 100000 in
theorem mc_153 : lw_tbl[546]? = some (.code (MNM 153) (MBY 153) (MLN 153) (RTY (MRT 153))) := rfl
set_option maxRecDepth 100000 in
theorem mc_154 : lw_tbl[558]? = some (.code (MNM 154) (MBY 154) (MLN 154) (RTY (MRT 154))) := rfl
set_option maxRecDepth 100000 in
theorem mc_155 : lw_tbl[1045]? = some (.code (MNM 155) (MBY 155) (MLN 155) (RTY (MRT 155))) := rfl
set_option maxRecDepth 100000 in
theorem mc_156 : lw_tbl[1285]? = some (.code (MNM 156) (MBY 156) (MLN 156) (RTY (MRT 156))) := rfl
set_option maxRecDepth 100000 in
theorem mc_157 : lw_tbl[1489]? = some (.code (MNM 157) (MBY 157) (MLN 157) (RTY (MRT 157))) := rfl
set_option maxRecDepth 100000 in
theorem mc_158 : lw_tbl[1618]? = some (.code (MNM 158) (MBY 158) (MLN 158) (RTY (MRT 158))) := rfl
set_option maxRecDepth 100000 in
theorem mc_159 : lw_tbl[1621]? = some (.code (MNM 159) (MBY 159) (MLN 159) (RTY (MRT 159))) := rfl
set_option maxRecDepth 100000 in
theorem mc_160 : lw_tbl[1775]? = some (.code (MNM 160) (MBY 160) (MLN 160) (RTY (MRT 160))) := rfl
set_option maxRecDepth 100000 in
theorem mc_161 : lw_tbl[1500]? = some (.code (MNM 161) (MBY 161) (MLN 161) (RTY (MRT 161))) := rfl
set_option maxRecDepth 100000 in
theorem mc_162 : lw_tbl[1759]? = some (.code (MNM 162) (MBY 162) (MLN 162) (RTY (MRT 162))) := rfl
set_option maxRecDepth 100000 in
theorem mc_163 : lw_tbl[1692]? = some (.code (MNM 163) (MBY 163) (MLN 163) (RTY (MRT 163))) := rfl
set_option maxRecDepth 100000 in
theorem mc_164 : lw_tbl[1497]? = some (.code (MNM 164) (MBY 164) (MLN 164) (RTY (MRT 164))) := rfl
set_option maxRecDepth 100000 in
theorem mc_165 : lw_tbl[1615]? = some (.code (MNM 165) (MBY 165) (MLN 165) (RTY (MRT 165))) := rfl
set_option maxRecDepth 100000 in
theorem mc_166 : lw_tbl[1645]? = some (.code (MNM 166) (MBY 166) (MLN 166) (RTY (MRT 166))) := rfl
set_option maxRecDepth 100000 in
theorem mc_167 : lw_tbl[1649]? = some (.code (MNM 167) (MBY 167) (MLN 167) (RTY (MRT 167))) := rfl
set_option maxRecDepth 100000 in
theorem mc_168 : lw_tbl[1724]? = some (.code (MNM 168) (MBY 168) (MLN 168) (RTY (MRT 168))) := rfl
set_option maxRecDepth 100000 in
theorem mc_169 : lw_tbl[1486]? = some (.code (MNM 169) (MBY 169) (MLN 169) (RTY (MRT 169))) := rfl
set_option maxRecDepth 100000 in
theorem mc_170 : lw_tbl[1493]? = some (.code (MNM 170) (MBY 170) (MLN 170) (RTY (MRT 170))) := rfl
set_option maxRecDepth 100000 in
theorem mc_171 : lw_tbl[1504]? = some (.code (MNM 171) (MBY 171) (MLN 171) (RTY (MRT 171))) := rfl
set_option maxRecDepth 100000 in
theorem mc_172 : lw_tbl[1508]? = some (.code (MNM 172) (MBY 172) (MLN 172) (RTY (MRT 172))) := rfl
set_option maxRecDepth 100000 in
theorem mc_173 : lw_tbl[1516]? = some (.code (MNM 173) (MBY 173) (MLN 173) (RTY (MRT 173))) := rfl
set_option maxRecDepth 100000 in
theorem mc_174 : lw_tbl[1512]? = some (.code (MNM 174) (MBY 174) (MLN 174) (RTY (MRT 174))) := rfl
set_option maxRecDepth 100000 in
theorem mc_175 : lw_tbl[1532]? = some (.code (MNM 175) (MBY 175) (MLN 175) (RTY (MRT 175))) := rfl
set_option maxRecDepth 100000 in
theorem mc_176 : lw_tbl[1553]? = some (.code (MNM 176) (MBY 176) (MLN 176) (RTY (MRT 176))) := rfl
set_option maxRecDepth 100000 in
theorem mc_177 : lw_tbl[1536]? = some (.code (MNM 177) (MBY 177) (MLN 177) (RTY (MRT 177))) := rfl
set_option maxRecDepth 100000 in
theorem mc_178 : lw_tbl[1603]? = some (.code (MNM 178) (MBY 178) (MLN 178) (RTY (MRT 178))) := rfl
set_option maxRecDepth 100000 in
theorem mc_179 : lw_tbl[1557]? = some (.code (MNM 179) (MBY 179) (MLN 179) (RTY (MRT 179))) := rfl
set_option maxRecDepth 100000 in
theorem mc_180 : lw_tbl[1561]? = some (.code (MNM 180) (MBY 180) (MLN 180) (RTY (MRT 180))) := rfl
set_option maxRecDepth 100000 in
theorem mc_181 : lw_tbl[1548]? = some (.code (MNM 181) (MBY 181) (MLN 181) (RTY (MRT 181))) := rfl
set_option maxRecDepth 100000 in
theorem mc_182 : lw_tbl[1575]? = some (.code (MNM 182) (MBY 182) (MLN 182) (RTY (MRT 182))) := rfl
set_option maxRecDepth 100000 in
theorem mc_183 : lw_tbl[1564]? = some (.code (MNM 183) (MBY 183) (MLN 183) (RTY (MRT 183))) := rfl
set_option maxRecDepth 100000 in
theorem mc_184 : lw_tbl[1567]? = some (.code (MNM 184) (MBY 184) (MLN 184) (RTY (MRT 184))) := rfl
set_option maxRecDepth 100000 in
theorem mc_185 : lw_tbl[1571]? = some (.code (MNM 185) (MBY 185) (MLN 185) (RTY (MRT 185))) := rfl
set_option maxRecDepth 100000 in
theorem mc_186 : lw_tbl[1544]? = some (.code (MNM 186) (MBY 186) (MLN 186) (RTY (MRT 186))) := rfl
set_option maxRecDepth 100000 in
theorem mc_187 : lw_tbl[1579]? = some (.code (MNM 187) (MBY 187) (MLN 187) (RTY (MRT 187))) := rfl
set_option maxRecDepth 100000 in
theorem mc_188 : lw_tbl[1540]? = some (.code (MNM 188) (MBY 188) (MLN 188) (RTY (MRT 188))) := rfl
set_option maxRecDepth 100000 in
theorem mc_189 : lw_tbl[1591]? = some (.code (MNM 189) (MBY 189) (MLN 189) (RTY (MRT 189))) := rfl
set_option maxRecDepth 100000 in
theorem mc_190 : lw_tbl[1595]? = some (.code (MNM 190) (MBY 190) (MLN 190) (RTY (MRT 190))) := rfl
set_option maxRecDepth 100000 in
theorem mc_191 : lw_tbl[1599]? = some (.code (MNM 191) (MBY 191) (MLN 191) (RTY (MRT 191))) := rfl
set_option maxRecDepth 100000 in
theorem mc_192 : lw_tbl[1587]? = some (.code (MNM 192) (MBY 192) (MLN 192) (RTY (MRT 192))) := rfl
set_option maxRecDepth 100000 in
theorem mc_193 : lw_tbl[1583]? = some (.code (MNM 193) (MBY 193) (MLN 193) (RTY (MRT 193))) := rfl
set_option maxRecDepth 100000 in
theorem mc_194 : lw_tbl[1528]? = some (.code (MNM 194) (MBY 194) (MLN 194) (RTY (MRT 194))) := rfl
set_option maxRecDepth 100000 in
theorem mc_195 : lw_tbl[1524]? = some (.code (MNM 195) (MBY 195) (MLN 195) (RTY (MRT 195))) := rfl
set_option maxRecDepth 100000 in
theorem mc_196 : lw_tbl[1520]? = some (.code (MNM 196) (MBY 196) (MLN 196) (RTY (MRT 196))) := rfl
set_option maxRecDepth 100000 in
theorem mc_197 : lw_tbl[1660]? = some (.code (MNM 197) (MBY 197) (MLN 197) (RTY (MRT 197))) := rfl
set_option maxRecDepth 100000 in
theorem mc_198 : lw_tbl[1657]? = some (.code (MNM 198) (MBY 198) (MLN 198) (RTY (MRT 198))) := rfl
set_option maxRecDepth 100000 in
theorem mc_199 : lw_tbl[1653]? = some (.code (MNM 199) (MBY 199) (MLN 199) (RTY (MRT 199))) := rfl
set_option maxRecDepth 100000 in
theorem mc_200 : lw_tbl[1664]? = some (.code (MNM 200) (MBY 200) (MLN 200) (RTY (MRT 200))) := rfl
set_option maxRecDepth 100000 in
theorem mc_201 : lw_tbl[1641]? = some (.code (MNM 201) (MBY 201) (MLN 201) (RTY (MRT 201))) := rfl
set_option maxRecDepth 100000 in
theorem mc_202 : lw_tbl[1611]? = some (.code (MNM 202) (MBY 202) (MLN 202) (RTY (MRT 202))) := rfl
set_option maxRecDepth 100000 in
theorem mc_203 : lw_tbl[1607]? = some (.code (MNM 203) (MBY 203) (MLN 203) (RTY (MRT 203))) := rfl
set_option maxRecDepth 100000 in
theorem mc_204 : lw_tbl[1637]? = some (.code (MNM 204) (MBY 204) (MLN 204) (RTY (MRT 204))) := rfl
set_option maxRecDepth 100000 in
theorem mc_205 : lw_tbl[1677]? = some (.code (MNM 205) (MBY 205) (MLN 205) (RTY (MRT 205))) := rfl
set_option maxRecDepth 100000 in
theorem mc_206 : lw_tbl[1681]? = some (.code (MNM 206) (MBY 206) (MLN 206) (RTY (MRT 206))) := rfl
set_option maxRecDepth 100000 in
theorem mc_207 : lw_tbl[1673]? = some (.code (MNM 207) (MBY 207) (MLN 207) (RTY (MRT 207))) := rfl
set_option maxRecDepth 100000 in
theorem mc_208 : lw_tbl[1685]? = some (.code (MNM 208) (MBY 208) (MLN 208) (RTY (MRT 208))) := rfl
set_option maxRecDepth 100000 in
theorem mc_209 : lw_tbl[1669]? = some (.code (MNM 209) (MBY 209) (MLN 209) (RTY (MRT 209))) := rfl
set_option maxRecDepth 100000 in
theorem mc_210 : lw_tbl[1633]? = some (.code (MNM 210) (MBY 210) (MLN 210) (RTY (MRT 210))) := rfl
set_option maxRecDepth 100000 in
theorem mc_211 : lw_tbl[1629]? = some (.code (MNM 211) (MBY 211) (MLN 211) (RTY (MRT 211))) := rfl
set_option maxRecDepth 100000 in
theorem mc_212 : lw_tbl[1625]? = some (.code (MNM 212) (MBY 212) (MLN 212) (RTY (MRT 212))) := rfl
set_option maxRecDepth 100000 in
theorem mc_213 : lw_tbl[1689]? = some (.code (MNM 213) (MBY 213) (MLN 213) (RTY (MRT 213))) := rfl
set_option maxRecDepth 100000 in
theorem mc_214 : lw_tbl[1696]? = some (.code (MNM 214) (MBY 214) (MLN 214) (RTY (MRT 214))) := rfl
set_option maxRecDepth 100000 in
theorem mc_215 : lw_tbl[1704]? = some (.code (MNM 215) (MBY 215) (MLN 215) (RTY (MRT 215))) := rfl
set_option maxRecDepth 100000 in
theorem mc_216 : lw_tbl[1708]? = some (.code (MNM 216) (MBY 216) (MLN 216) (RTY (MRT 216))) := rfl
set_option maxRecDepth 100000 in
theorem mc_217 : lw_tbl[1700]? = some (.code (MNM 217) (MBY 217) (MLN 217) (RTY (MRT 217))) := rfl
set_option maxRecDepth 100000 in
theorem mc_218 : lw_tbl[1720]? = some (.code (MNM 218) (MBY 218) (MLN 218) (RTY (MRT 218))) := rfl
set_option maxRecDepth 100000 in
theorem mc_219 : lw_tbl[1736]? = some (.code (MNM 219) (MBY 219) (MLN 219) (RTY (MRT 219))) := rfl
set_option maxRecDepth 100000 in
theorem mc_220 : lw_tbl[1732]? = some (.code (MNM 220) (MBY 220) (MLN 220) (RTY (MRT 220))) := rfl
set_option maxRecDepth 100000 in
theorem mc_221 : lw_tbl[1728]? = some (.code (MNM 221) (MBY 221) (MLN 221) (RTY (MRT 221))) := rfl
set_option maxRecDepth 100000 in
theorem mc_222 : lw_tbl[1716]? = some (.code (MNM 222) (MBY 222) (MLN 222) (RTY (MRT 222))) := rfl
set_option maxRecDepth 100000 in
theorem mc_223 : lw_tbl[1712]? = some (.code (MNM 223) (MBY 223) (MLN 223) (RTY (MRT 223))) := rfl
set_option maxRecDepth 100000 in
theorem mc_224 : lw_tbl[1740]? = some (.code (MNM 224) (MBY 224) (MLN 224) (RTY (MRT 224))) := rfl
set_option maxRecDepth 100000 in
theorem mc_225 : lw_tbl[1744]? = some (.code (MNM 225) (MBY 225) (MLN 225) (RTY (MRT 225))) := rfl
set_option maxRecDepth 100000 in
theorem mc_226 : lw_tbl[1752]? = some (.code (MNM 226) (MBY 226) (MLN 226) (RTY (MRT 226))) := rfl
set_option maxRecDepth 100000 in
theorem mc_227 : lw_tbl[1748]? = some (.code (MNM 227) (MBY 227) (MLN 227) (RTY (MRT 227))) := rfl
set_option maxRecDepth 100000 in
theorem mc_228 : lw_tbl[1763]? = some (.code (MNM 228) (MBY 228) (MLN 228) (RTY (MRT 228))) := rfl
set_option maxRecDepth 100000 in
theorem mc_229 : lw_tbl[1772]? = some (.code (MNM 229) (MBY 229) (MLN 229) (RTY (MRT 229))) := rfl
set_option maxRecDepth 100000 in
theorem mc_230 : lw_tbl[1768]? = some (.code (MNM 230) (MBY 230) (MLN 230) (RTY (MRT 230))) := rfl
set_option maxRecDepth 100000 in
theorem mc_231 : lw_tbl[1756]? = some (.code (MNM 231) (MBY 231) (MLN 231) (RTY (MRT 231))) := rfl
set_option maxRecDepth 100000 in
theorem mc_232 : lw_tbl[1783]? = some (.code (MNM 232) (MBY 232) (MLN 232) (RTY (MRT 232))) := rfl
set_option maxRecDepth 100000 in
theorem mc_233 : lw_tbl[1779]? = some (.code (MNM 233) (MBY 233) (MLN 233) (RTY (MRT 233))) := rfl
set_option maxRecDepth 100000 in
theorem mc_234 : lw_tbl[1787]? = some (.code (MNM 234) (MBY 234) (MLN 234) (RTY (MRT 234))) := rfl
set_option maxRecDepth 100000 in
theorem mc_235 : lw_tbl[1791]? = some (.code (MNM 235) (MBY 235) (MLN 235) (RTY (MRT 235))) := rfl
set_option maxRecDepth 100000 in
theorem mc_236 : lw_tbl[1803]? = some (.code (MNM 236) (MBY 236) (MLN 236) (RTY (MRT 236))) := rfl
set_option maxRecDepth 100000 in
theorem mc_237 : lw_tbl[1799]? = some (.code (MNM 237) (MBY 237) (MLN 237) (RTY (MRT 237))) := rfl
set_option maxRecDepth 100000 in
theorem mc_238 : lw_tbl[1795]? = some (.code (MNM 238) (MBY 238) (MLN 238) (RTY (MRT 238))) := rfl
set_option maxRecDepth 100000 in
theorem mc_239 : lw_tbl[1807]? = some (.code (MNM 239) (MBY 239) (MLN 239) (RTY (MRT 239))) := rfl
set_option maxRecDepth 100000 in
theorem mc_240 : lw_tbl[1811]? = some (.code (MNM 240) (MBY 240) (MLN 240) (RTY (MRT 240))) := rfl
set_option maxRecDepth 100000 in
theorem mc_241 : lw_tbl[1819]? = some (.code (MNM 241) (MBY 241) (MLN 241) (RTY (MRT 241))) := rfl
set_option maxRecDepth 100000 in
theorem mc_242 : lw_tbl[1815]? = some (.code (MNM 242) (MBY 242) (MLN 242) (RTY (MRT 242))) := rfl
set_option maxRecDepth 100000 in
theorem mc_243 : lw_tbl[1823]? = some (.code (MNM 243) (MBY 243) (MLN 243) (RTY (MRT 243))) := rfl
set_option maxRecDepth 100000 in
theorem mc_244 : lw_tbl[1827]? = some (.code (MNM 244) (MBY 244) (MLN 244) (RTY (MRT 244))) := rfl
set_option maxRecDepth 100000 in
theorem mc_245 : lw_tbl[1831]? = some (.code (MNM 245) (MBY 245) (MLN 245) (RTY (MRT 245))) := rfl
set_option maxRecDepth 100000 in
theorem mc_246 : lw_tbl[1839]? = some (.code (MNM 246) (MBY 246) (MLN 246) (RTY (MRT 246))) := rfl
set_option maxRecDepth 100000 in
theorem mc_247 : lw_tbl[1843]? = some (.code (MNM 247) (MBY 247) (MLN 247) (RTY (MRT 247))) := rfl
set_option maxRecDepth 100000 in
theorem mc_248 : lw_tbl[1847]? = some (.code (MNM 248) (MBY 248) (MLN 248) (RTY (MRT 248))) := rfl
set_option maxRecDepth 100000 in
theorem mc_249 : lw_tbl[1835]? = some (.code (MNM 249) (MBY 249) (MLN 249) (RTY (MRT 249))) := rfl
set_option maxRecDepth 100000 in
theorem mc_250 : lw_tbl[1855]? = some (.code (MNM 250) (MBY 250) (MLN 250) (RTY (MRT 250))) := rfl
set_option maxRecDepth 100000 in
theorem mc_251 : lw_tbl[1851]? = some (.code (MNM 251) (MBY 251) (MLN 251) (RTY (MRT 251))) := rfl
set_option maxRecDepth 100000 in
theorem mc_252 : lw_tbl[1859]? = some (.code (MNM 252) (MBY 252) (MLN 252) (RTY (MRT 252))) := rfl
set_option maxRecDepth 100000 in
theorem mc_253 : lw_tbl[1864]? = some (.code (MNM 253) (MBY 253) (MLN 253) (RTY (MRT 253))) := rfl
set_option maxRecDepth 100000 in
theorem mc_254 : lw_tbl[1869]? = some (.code (MNM 254) (MBY 254) (MLN 254) (RTY (MRT 254))) := rfl
set_option maxRecDepth 100000 in
theorem mc_255 : lw_tbl[1873]? = some (.code (MNM 255) (MBY 255) (MLN 255) (RTY (MRT 255))) := rfl
set_option maxRecDepth 100000 in
theorem mc_256 : lw_tbl[1877]? = some (.code (MNM 256) (MBY 256) (MLN 256) (RTY (MRT 256))) := rfl
set_option maxRecDepth 100000 in
theorem mc_257 : lw_tbl[1881]? = some (.code (MNM 257) (MBY 257) (MLN 257) (RTY (MRT 257))) := rfl
set_option maxRecDepth 100000 in
theorem mc_258 : lw_tbl[186]? = some (.code (MNM 258) (MBY 258) (MLN 258) (RTY (MRT 258))) := rfl
set_option maxRecDepth 100000 in
theorem mc_259 : lw_tbl[1048]? = some (.code (MNM 259) (MBY 259) (MLN 259) (RTY (MRT 259))) := rfl
