theorem lkT_ok : lkT = lkP.filterMap (fun i => lw_tbl[i]?) := by decide +kernel
theorem mW_ok : (List.range 187).flatMap mW = mP.filterMap (fun i => lw_tbl[i]?) := by decide +kernel
set_option maxRecDepth 100000 in
theorem mc_0 : lw_tbl[636]? = some (Cond.code (mY 0) (mB 0) (mM 0) (mR 0)) := rfl
set_option maxRecDepth 100000 in
theorem mc_1 : lw_tbl[640]? = some (Cond.code (mY 1) (mB 1) (mM 1) (mR 1)) := rfl
set_option maxRecDepth 100000 in
theorem mc_2 : lw_tbl[702]? = some (Cond.code (mY 2) (mB 2) (mM 2) (mR 2)) := rfl
set_option maxRecDepth 100000 in
theorem mc_3 : lw_tbl[660]? = some (Cond.code (mY 3) (mB 3) (mM 3) (mR 3)) := rfl
set_option maxRecDepth 100000 in
theorem mc_4 : lw_tbl[857]? = some (Cond.code (mY 4) (mB 4) (mM 4) (mR 4)) := rfl
set_option maxRecDepth 100000 in
theorem mc_5 : lw_tbl[843]? = some (Cond.code (mY 5) (mB 5) (mM 5) (mR 5)) := rfl
set_option maxRecDepth 100000 in
theorem mc_6 : lw_tbl[486]? = some (Cond.code (mY 6) (mB 6) (mM 6) (mR 6)) := rfl
set_option maxRecDepth 100000 in
theorem mc_7 : lw_tbl[768]? = some (Cond.code (mY 7) (mB 7) (mM 7) (mR 7)) := rfl
set_option maxRecDepth 100000 in
theorem mc_8 : lw_tbl[796]? = some (Cond.code (mY 8) (mB 8) (mM 8) (mR 8)) := rfl
set_option maxRecDepth 100000 in
theorem mc_9 : lw_tbl[788]? = some (Cond.code (mY 9) (mB 9) (mM 9) (mR 9)) := rfl
set_option maxRecDepth 100000 in
theorem mc_10 : lw_tbl[677]? = some (Cond.code (mY 10) (mB 10) (mM 10) (mR 10)) := rfl
set_option maxRecDepth 100000 in
theorem mc_11 : lw_tbl[682]? = some (Cond.code (mY 11) (mB 11) (mM 11) (mR 11)) := rfl
set_option maxRecDepth 100000 in
theorem mc_12 : lw_tbl[909]? = some (Cond.code (mY 12) (mB 12) (mM 12) (mR 12)) := rfl
set_option maxRecDepth 100000 in
theorem mc_13 : lw_tbl[879]? = some (Cond.code (mY 13) (mB 13) (mM 13) (mR 13)) := rfl
set_option maxRecDepth 100000 in
theorem mc_14 : lw_tbl[887]? = some (Cond.code (mY 14) (mB 14) (mM 14) (mR 14)) := rfl
set_option maxRecDepth 100000 in
theorem mc_15 : lw_tbl[462]? = some (Cond.code (mY 15) (mB 15) (mM 15) (mR 15)) := rfl
set_option maxRecDepth 100000 in
theorem mc_16 : lw_tbl[482]? = some (Cond.code (mY 16) (mB 16) (mM 16) (mR 16)) := rfl
set_option maxRecDepth 100000 in
theorem mc_17 : lw_tbl[613]? = some (Cond.code (mY 17) (mB 17) (mM 17) (mR 17)) := rfl
set_option maxRecDepth 100000 in
theorem mc_18 : lw_tbl[616]? = some (Cond.code (mY 18) (mB 18) (mM 18) (mR 18)) := rfl
set_option maxRecDepth 100000 in
theorem mc_19 : lw_tbl[610]? = some (Cond.code (mY 19) (mB 19) (mM 19) (mR 19)) := rfl
set_option maxRecDepth 100000 in
theorem mc_20 : lw_tbl[604]? = some (Cond.code (mY 20) (mB 20) (mM 20) (mR 20)) := rfl
set_option maxRecDepth 100000 in
theorem mc_21 : lw_tbl[607]? = some (Cond.code (mY 21) (mB 21) (mM 21) (mR 21)) := rfl
set_option maxRecDepth 100000 in
theorem mc_22 : lw_tbl[619]? = some (Cond.code (mY 22) (mB 22) (mM 22) (mR 22)) := rfl
set_option maxRecDepth 100000 in
theorem mc_23 : lw_tbl[623]? = some (Cond.code (mY 23) (mB 23) (mM 23) (mR 23)) := rfl
set_option maxRecDepth 100000 in
theorem mc_24 : lw_tbl[474]? = some (Cond.code (mY 24) (mB 24) (mM 24) (mR 24)) := rfl
set_option maxRecDepth 100000 in
theorem mc_25 : lw_tbl[478]? = some (Cond.code (mY 25) (mB 25) (mM 25) (mR 25)) := rfl
set_option maxRecDepth 100000 in
theorem mc_26 : lw_tbl[838]? = some (Cond.code (mY 26) (mB 26) (mM 26) (mR 26)) := rfl
set_option maxRecDepth 100000 in
theorem mc_27 : lw_tbl[904]? = some (Cond.code (mY 27) (mB 27) (mM 27) (mR 27)) := rfl
set_option maxRecDepth 100000 in
theorem mc_28 : lw_tbl[951]? = some (Cond.code (mY 28) (mB 28) (mM 28) (mR 28)) := rfl
set_option maxRecDepth 100000 in
theorem mc_29 : lw_tbl[649]? = some (Cond.code (mY 29) (mB 29) (mM 29) (mR 29)) := rfl
set_option maxRecDepth 100000 in
theorem mc_30 : lw_tbl[665]? = some (Cond.code (mY 30) (mB 30) (mM 30) (mR 30)) := rfl
set_option maxRecDepth 100000 in
theorem mc_31 : lw_tbl[669]? = some (Cond.code (mY 31) (mB 31) (mM 31) (mR 31)) := rfl
set_option maxRecDepth 100000 in
theorem mc_32 : lw_tbl[673]? = some (Cond.code (mY 32) (mB 32) (mM 32) (mR 32)) := rfl
set_option maxRecDepth 100000 in
theorem mc_33 : lw_tbl[687]? = some (Cond.code (mY 33) (mB 33) (mM 33) (mR 33)) := rfl
set_option maxRecDepth 100000 in
theorem mc_34 : lw_tbl[692]? = some (Cond.code (mY 34) (mB 34) (mM 34) (mR 34)) := rfl
set_option maxRecDepth 100000 in
theorem mc_35 : lw_tbl[695]? = some (Cond.code (mY 35) (mB 35) (mM 35) (mR 35)) := rfl
set_option maxRecDepth 100000 in
theorem mc_36 : lw_tbl[717]? = some (Cond.code (mY 36) (mB 36) (mM 36) (mR 36)) := rfl
set_option maxRecDepth 100000 in
theorem mc_37 : lw_tbl[713]? = some (Cond.code (mY 37) (mB 37) (mM 37) (mR 37)) := rfl
set_option maxRecDepth 100000 in
theorem mc_38 : lw_tbl[722]? = some (Cond.code (mY 38) (mB 38) (mM 38) (mR 38)) := rfl
set_option maxRecDepth 100000 in
theorem mc_39 : lw_tbl[726]? = some (Cond.code (mY 39) (mB 39) (mM 39) (mR 39)) := rfl
set_option maxRecDepth 100000 in
theorem mc_40 : lw_tbl[730]? = some (Cond.code (mY 40) (mB 40) (mM 40) (mR 40)) := rfl
set_option maxRecDepth 100000 in
theorem mc_41 : lw_tbl[734]? = some (Cond.code (mY 41) (mB 41) (mM 41) (mR 41)) := rfl
set_option maxRecDepth 100000 in
theorem mc_42 : lw_tbl[738]? = some (Cond.code (mY 42) (mB 42) (mM 42) (mR 42)) := rfl
set_option maxRecDepth 100000 in
theorem mc_43 : lw_tbl[742]? = some (Cond.code (mY 43) (mB 43) (mM 43) (mR 43)) := rfl
set_option maxRecDepth 100000 in
theorem mc_44 : lw_tbl[748]? = some (Cond.code (mY 44) (mB 44) (mM 44) (mR 44)) := rfl
set_option maxRecDepth 100000 in
theorem mc_45 : lw_tbl[752]? = some (Cond.code (mY 45) (mB 45) (mM 45) (mR 45)) := rfl
set_option maxRecDepth 100000 in
theorem mc_46 : lw_tbl[756]? = some (Cond.code (mY 46) (mB 46) (mM 46) (mR 46)) := rfl
set_option maxRecDepth 100000 in
theorem mc_47 : lw_tbl[760]? = some (Cond.code (mY 47) (mB 47) (mM 47) (mR 47)) := rfl
set_option maxRecDepth 100000 in
theorem mc_48 : lw_tbl[764]? = some (Cond.code (mY 48) (mB 48) (mM 48) (mR 48)) := rfl
set_option maxRecDepth 100000 in
theorem mc_49 : lw_tbl[930]? = some (Cond.code (mY 49) (mB 49) (mM 49) (mR 49)) := rfl
set_option maxRecDepth 100000 in
theorem mc_50 : lw_tbl[934]? = some (Cond.code (mY 50) (mB 50) (mM 50) (mR 50)) := rfl
set_option maxRecDepth 100000 in
theorem mc_51 : lw_tbl[573]? = some (Cond.code (mY 51) (mB 51) (mM 51) (mR 51)) := rfl
set_option maxRecDepth 100000 in
theorem mc_52 : lw_tbl[577]? = some (Cond.code (mY 52) (mB 52) (mM 52) (mR 52)) := rfl
set_option maxRecDepth 100000 in
theorem mc_53 : lw_tbl[896]? = some (Cond.code (mY 53) (mB 53) (mM 53) (mR 53)) := rfl
set_option maxRecDepth 100000 in
theorem mc_54 : lw_tbl[938]? = some (Cond.code (mY 54) (mB 54) (mM 54) (mR 54)) := rfl
set_option maxRecDepth 100000 in
theorem mc_55 : lw_tbl[466]? = some (Cond.code (mY 55) (mB 55) (mM 55) (mR 55)) := rfl
set_option maxRecDepth 100000 in
theorem mc_56 : lw_tbl[581]? = some (Cond.code (mY 56) (mB 56) (mM 56) (mR 56)) := rfl
set_option maxRecDepth 100000 in
theorem mc_57 : lw_tbl[709]? = some (Cond.code (mY 57) (mB 57) (mM 57) (mR 57)) := rfl
set_option maxRecDepth 100000 in
theorem mc_58 : lw_tbl[653]? = some (Cond.code (mY 58) (mB 58) (mM 58) (mR 58)) := rfl
set_option maxRecDepth 100000 in
theorem mc_59 : lw_tbl[524]? = some (Cond.code (mY 59) (mB 59) (mM 59) (mR 59)) := rfl
set_option maxRecDepth 100000 in
theorem mc_60 : lw_tbl[531]? = some (Cond.code (mY 60) (mB 60) (mM 60) (mR 60)) := rfl
set_option maxRecDepth 100000 in
theorem mc_61 : lw_tbl[545]? = some (Cond.code (mY 61) (mB 61) (mM 61) (mR 61)) := rfl
set_option maxRecDepth 100000 in
theorem mc_62 : lw_tbl[550]? = some (Cond.code (mY 62) (mB 62) (mM 62) (mR 62)) := rfl
set_option maxRecDepth 100000 in
theorem mc_63 : lw_tbl[555]? = some (Cond.code (mY 63) (mB 63) (mM 63) (mR 63)) := rfl
set_option maxRecDepth 100000 in
theorem mc_64 : lw_tbl[559]? = some (Cond.code (mY 64) (mB 64) (mM 64) (mR 64)) := rfl
set_option maxRecDepth 100000 in
theorem mc_65 : lw_tbl[585]? = some (Cond.code (mY 65) (mB 65) (mM 65) (mR 65)) := rfl
set_option maxRecDepth 100000 in
theorem mc_66 : lw_tbl[589]? = some (Cond.code (mY 66) (mB 66) (mM 66) (mR 66)) := rfl
set_option maxRecDepth 100000 in
theorem mc_67 : lw_tbl[593]? = some (Cond.code (mY 67) (mB 67) (mM 67) (mR 67)) := rfl
set_option maxRecDepth 100000 in
theorem mc_68 : lw_tbl[597]? = some (Cond.code (mY 68) (mB 68) (mM 68) (mR 68)) := rfl
set_option maxRecDepth 100000 in
theorem mc_69 : lw_tbl[628]? = some (Cond.code (mY 69) (mB 69) (mM 69) (mR 69)) := rfl
set_option maxRecDepth 100000 in
theorem mc_70 : lw_tbl[632]? = some (Cond.code (mY 70) (mB 70) (mM 70) (mR 70)) := rfl
set_option maxRecDepth 100000 in
theorem mc_71 : lw_tbl[645]? = some (Cond.code (mY 71) (mB 71) (mM 71) (mR 71)) := rfl
set_option maxRecDepth 100000 in
theorem mc_72 : lw_tbl[772]? = some (Cond.code (mY 72) (mB 72) (mM 72) (mR 72)) := rfl
set_option maxRecDepth 100000 in
theorem mc_73 : lw_tbl[776]? = some (Cond.code (mY 73) (mB 73) (mM 73) (mR 73)) := rfl
set_option maxRecDepth 100000 in
theorem mc_74 : lw_tbl[780]? = some (Cond.code (mY 74) (mB 74) (mM 74) (mR 74)) := rfl
set_option maxRecDepth 100000 in
theorem mc_75 : lw_tbl[784]? = some (Cond.code (mY 75) (mB 75) (mM 75) (mR 75)) := rfl
set_option maxRecDepth 100000 in
theorem mc_76 : lw_tbl[792]? = some (Cond.code (mY 76) (mB 76) (mM 76) (mR 76)) := rfl
set_option maxRecDepth 100000 in
theorem mc_77 : lw_tbl[801]? = some (Cond.code (mY 77) (mB 77) (mM 77) (mR 77)) := rfl
set_option maxRecDepth 100000 in
theorem mc_78 : lw_tbl[810]? = some (Cond.code (mY 78) (mB 78) (mM 78) (mR 78)) := rfl
set_option maxRecDepth 100000 in
theorem mc_79 : lw_tbl[814]? = some (Cond.code (mY 79) (mB 79) (mM 79) (mR 79)) := rfl
set_option maxRecDepth 100000 in
theorem mc_80 : lw_tbl[818]? = some (Cond.code (mY 80) (mB 80) (mM 80) (mR 80)) := rfl
set_option maxRecDepth 100000 in
theorem mc_81 : lw_tbl[822]? = some (Cond.code (mY 81) (mB 81) (mM 81) (mR 81)) := rfl
set_option maxRecDepth 100000 in
theorem mc_82 : lw_tbl[853]? = some (Cond.code (mY 82) (mB 82) (mM 82) (mR 82)) := rfl
set_option maxRecDepth 100000 in
theorem mc_83 : lw_tbl[867]? = some (Cond.code (mY 83) (mB 83) (mM 83) (mR 83)) := rfl
set_option maxRecDepth 100000 in
theorem mc_84 : lw_tbl[871]? = some (Cond.code (mY 84) (mB 84) (mM 84) (mR 84)) := rfl
set_option maxRecDepth 100000 in
theorem mc_85 : lw_tbl[875]? = some (Cond.code (mY 85) (mB 85) (mM 85) (mR 85)) := rfl
set_option maxRecDepth 100000 in
theorem mc_86 : lw_tbl[883]? = some (Cond.code (mY 86) (mB 86) (mM 86) (mR 86)) := rfl
set_option maxRecDepth 100000 in
theorem mc_87 : lw_tbl[892]? = some (Cond.code (mY 87) (mB 87) (mM 87) (mR 87)) := rfl
set_option maxRecDepth 100000 in
theorem mc_88 : lw_tbl[900]? = some (Cond.code (mY 88) (mB 88) (mM 88) (mR 88)) := rfl
set_option maxRecDepth 100000 in
theorem mc_89 : lw_tbl[914]? = some (Cond.code (mY 89) (mB 89) (mM 89) (mR 89)) := rfl
set_option maxRecDepth 100000 in
theorem mc_90 : lw_tbl[918]? = some (Cond.code (mY 90) (mB 90) (mM 90) (mR 90)) := rfl
set_option maxRecDepth 100000 in
theorem mc_91 : lw_tbl[922]? = some (Cond.code (mY 91) (mB 91) (mM 91) (mR 91)) := rfl
set_option maxRecDepth 100000 in
theorem mc_92 : lw_tbl[926]? = some (Cond.code (mY 92) (mB 92) (mM 92) (mR 92)) := rfl
set_option maxRecDepth 100000 in
theorem mc_93 : lw_tbl[942]? = some (Cond.code (mY 93) (mB 93) (mM 93) (mR 93)) := rfl
set_option maxRecDepth 100000 in
theorem mc_94 : lw_tbl[947]? = some (Cond.code (mY 94) (mB 94) (mM 94) (mR 94)) := rfl
set_option maxRecDepth 100000 in
theorem mc_95 : lw_tbl[527]? = some (Cond.code (mY 95) (mB 95) (mM 95) (mR 95)) := rfl
set_option maxRecDepth 100000 in
theorem mc_96 : lw_tbl[829]? = some (Cond.code (mY 96) (mB 96) (mM 96) (mR 96)) := rfl
set_option maxRecDepth 100000 in
theorem mc_97 : lw_tbl[562]? = some (Cond.code (mY 97) (mB 97) (mM 97) (mR 97)) := rfl
set_option maxRecDepth 100000 in
theorem mc_98 : lw_tbl[565]? = some (Cond.code (mY 98) (mB 98) (mM 98) (mR 98)) := rfl
set_option maxRecDepth 100000 in
theorem mc_99 : lw_tbl[535]? = some (Cond.code (mY 99) (mB 99) (mM 99) (mR 99)) := rfl
set_option maxRecDepth 100000 in
theorem mc_100 : lw_tbl[805]? = some (Cond.code (mY 100) (mB 100) (mM 100) (mR 100)) := rfl
set_option maxRecDepth 100000 in
theorem mc_101 : lw_tbl[826]? = some (Cond.code (mY 101) (mB 101) (mM 101) (mR 101)) := rfl
set_option maxRecDepth 100000 in
theorem mc_102 : lw_tbl[601]? = some (Cond.code (mY 102) (mB 102) (mM 102) (mR 102)) := rfl
set_option maxRecDepth 100000 in
theorem mc_103 : lw_tbl[569]? = some (Cond.code (mY 103) (mB 103) (mM 103) (mR 103)) := rfl
set_option maxRecDepth 100000 in
theorem mc_104 : lw_tbl[458]? = some (Cond.code (mY 104) (mB 104) (mM 104) (mR 104)) := rfl
set_option maxRecDepth 100000 in
theorem mc_105 : lw_tbl[470]? = some (Cond.code (mY 105) (mB 105) (mM 105) (mR 105)) := rfl
set_option maxRecDepth 100000 in
theorem mc_106 : lw_tbl[539]? = some (Cond.code (mY 106) (mB 106) (mM 106) (mR 106)) := rfl
set_option maxRecDepth 100000 in
theorem mc_107 : lw_tbl[834]? = some (Cond.code (mY 107) (mB 107) (mM 107) (mR 107)) := rfl
set_option maxRecDepth 100000 in
theorem mc_108 : lw_tbl[848]? = some (Cond.code (mY 108) (mB 108) (mM 108) (mR 108)) := rfl
set_option maxRecDepth 100000 in
theorem mc_109 : lw_tbl[1202]? = some (Cond.code (mY 109) (mB 109) (mM 109) (mR 109)) := rfl
set_option maxRecDepth 100000 in
theorem mc_110 : lw_tbl[1248]? = some (Cond.code (mY 110) (mB 110) (mM 110) (mR 110)) := rfl
set_option maxRecDepth 100000 in
theorem mc_111 : lw_tbl[1051]? = some (Cond.code (mY 111) (mB 111) (mM 111) (mR 111)) := rfl
set_option maxRecDepth 100000 in
theorem mc_112 : lw_tbl[1211]? = some (Cond.code (mY 112) (mB 112) (mM 112) (mR 112)) := rfl
set_option maxRecDepth 100000 in
theorem mc_113 : lw_tbl[1244]? = some (Cond.code (mY 113) (mB 113) (mM 113) (mR 113)) := rfl
set_option maxRecDepth 100000 in
theorem mc_114 : lw_tbl[1058]? = some (Cond.code (mY 114) (mB 114) (mM 114) (mR 114)) := rfl
set_option maxRecDepth 100000 in
theorem mc_115 : lw_tbl[1048]? = some (Cond.code (mY 115) (mB 115) (mM 115) (mR 115)) := rfl
set_option maxRecDepth 100000 in
theorem mc_116 : lw_tbl[1055]? = some (Cond.code (mY 116) (mB 116) (mM 116) (mR 116)) := rfl
set_option maxRecDepth 100000 in
theorem mc_117 : lw_tbl[1062]? = some (Cond.code (mY 117) (mB 117) (mM 117) (mR 117)) := rfl
set_option maxRecDepth 100000 in
theorem mc_118 : lw_tbl[1340]? = some (Cond.code (mY 118) (mB 118) (mM 118) (mR 118)) := rfl
set_option maxRecDepth 100000 in
theorem mc_119 : lw_tbl[1215]? = some (Cond.code (mY 119) (mB 119) (mM 119) (mR 119)) := rfl
set_option maxRecDepth 100000 in
theorem mc_120 : lw_tbl[1223]? = some (Cond.code (mY 120) (mB 120) (mM 120) (mR 120)) := rfl
set_option maxRecDepth 100000 in
theorem mc_121 : lw_tbl[1207]? = some (Cond.code (mY 121) (mB 121) (mM 121) (mR 121)) := rfl
set_option maxRecDepth 100000 in
theorem mc_122 : lw_tbl[1219]? = some (Cond.code (mY 122) (mB 122) (mM 122) (mR 122)) := rfl
set_option maxRecDepth 100000 in
theorem mc_123 : lw_tbl[1227]? = some (Cond.code (mY 123) (mB 123) (mM 123) (mR 123)) := rfl
set_option maxRecDepth 100000 in
theorem mc_124 : lw_tbl[1232]? = some (Cond.code (mY 124) (mB 124) (mM 124) (mR 124)) := rfl
set_option maxRecDepth 100000 in
theorem mc_125 : lw_tbl[1237]? = some (Cond.code (mY 125) (mB 125) (mM 125) (mR 125)) := rfl
set_option maxRecDepth 100000 in
theorem mc_126 : lw_tbl[1275]? = some (Cond.code (mY 126) (mB 126) (mM 126) (mR 126)) := rfl
set_option maxRecDepth 100000 in
theorem mc_127 : lw_tbl[1241]? = some (Cond.code (mY 127) (mB 127) (mM 127) (mR 127)) := rfl
set_option maxRecDepth 100000 in
theorem mc_128 : lw_tbl[1332]? = some (Cond.code (mY 128) (mB 128) (mM 128) (mR 128)) := rfl
set_option maxRecDepth 100000 in
theorem mc_129 : lw_tbl[1344]? = some (Cond.code (mY 129) (mB 129) (mM 129) (mR 129)) := rfl
set_option maxRecDepth 100000 in
theorem mc_130 : lw_tbl[1255]? = some (Cond.code (mY 130) (mB 130) (mM 130) (mR 130)) := rfl
set_option maxRecDepth 100000 in
theorem mc_131 : lw_tbl[1259]? = some (Cond.code (mY 131) (mB 131) (mM 131) (mR 131)) := rfl
set_option maxRecDepth 100000 in
theorem mc_132 : lw_tbl[1263]? = some (Cond.code (mY 132) (mB 132) (mM 132) (mR 132)) := rfl
set_option maxRecDepth 100000 in
theorem mc_133 : lw_tbl[1271]? = some (Cond.code (mY 133) (mB 133) (mM 133) (mR 133)) := rfl
set_option maxRecDepth 100000 in
theorem mc_134 : lw_tbl[1279]? = some (Cond.code (mY 134) (mB 134) (mM 134) (mR 134)) := rfl
set_option maxRecDepth 100000 in
theorem mc_135 : lw_tbl[1283]? = some (Cond.code (mY 135) (mB 135) (mM 135) (mR 135)) := rfl
set_option maxRecDepth 100000 in
theorem mc_136 : lw_tbl[1267]? = some (Cond.code (mY 136) (mB 136) (mM 136) (mR 136)) := rfl
set_option maxRecDepth 100000 in
theorem mc_137 : lw_tbl[1287]? = some (Cond.code (mY 137) (mB 137) (mM 137) (mR 137)) := rfl
set_option maxRecDepth 100000 in
theorem mc_138 : lw_tbl[1317]? = some (Cond.code (mY 138) (mB 138) (mM 138) (mR 138)) := rfl
set_option maxRecDepth 100000 in
theorem mc_139 : lw_tbl[1313]? = some (Cond.code (mY 139) (mB 139) (mM 139) (mR 139)) := rfl
set_option maxRecDepth 100000 in
theorem mc_140 : lw_tbl[1309]? = some (Cond.code (mY 140) (mB 140) (mM 140) (mR 140)) := rfl
set_option maxRecDepth 100000 in
theorem mc_141 : lw_tbl[1294]? = some (Cond.code (mY 141) (mB 141) (mM 141) (mR 141)) := rfl
set_option maxRecDepth 100000 in
theorem mc_142 : lw_tbl[1291]? = some (Cond.code (mY 142) (mB 142) (mM 142) (mR 142)) := rfl
set_option maxRecDepth 100000 in
theorem mc_143 : lw_tbl[1305]? = some (Cond.code (mY 143) (mB 143) (mM 143) (mR 143)) := rfl
set_option maxRecDepth 100000 in
theorem mc_144 : lw_tbl[1321]? = some (Cond.code (mY 144) (mB 144) (mM 144) (mR 144)) := rfl
set_option maxRecDepth 100000 in
theorem mc_145 : lw_tbl[1325]? = some (Cond.code (mY 145) (mB 145) (mM 145) (mR 145)) := rfl
set_option maxRecDepth 100000 in
theorem mc_146 : lw_tbl[1328]? = some (Cond.code (mY 146) (mB 146) (mM 146) (mR 146)) := rfl
set_option maxRecDepth 100000 in
theorem mc_147 : lw_tbl[1302]? = some (Cond.code (mY 147) (mB 147) (mM 147) (mR 147)) := rfl
set_option maxRecDepth 100000 in
theorem mc_148 : lw_tbl[1336]? = some (Cond.code (mY 148) (mB 148) (mM 148) (mR 148)) := rfl
set_option maxRecDepth 100000 in
theorem mc_149 : lw_tbl[1348]? = some (Cond.code (mY 149) (mB 149) (mM 149) (mR 149)) := rfl
set_option maxRecDepth 100000 in
theorem mc_150 : lw_tbl[1356]? = some (Cond.code (mY 150) (mB 150) (mM 150) (mR 150)) := rfl
set_option maxRecDepth 100000 in
theorem mc_151 : lw_tbl[1352]? = some (Cond.code (mY 151) (mB 151) (mM 151) (mR 151)) := rfl
set_option maxRecDepth 100000 in
theorem mc_152 : lw_tbl[1360]? = some (Cond.code (mY 152) (mB 152) (mM 152) (mR 152)) := rfl
set_option maxRecDepth 100000 in
theorem mc_153 : lw_tbl[1364]? = some (Cond.code (mY 153) (mB 153) (mM 153) (mR 153)) := rfl
set_option maxRecDepth 100000 in
theorem mc_154 : lw_tbl[1298]? = some (Cond.code (mY 154) (mB 154) (mM 154) (mR 154)) := rfl
set_option maxRecDepth 100000 in
theorem mc_155 : lw_tbl[1368]? = some (Cond.code (mY 155) (mB 155) (mM 155) (mR 155)) := rfl
set_option maxRecDepth 100000 in
theorem mc_156 : lw_tbl[1372]? = some (Cond.code (mY 156) (mB 156) (mM 156) (mR 156)) := rfl
set_option maxRecDepth 100000 in
theorem mc_157 : lw_tbl[1376]? = some (Cond.code (mY 157) (mB 157) (mM 157) (mR 157)) := rfl
set_option maxRecDepth 100000 in
theorem mc_158 : lw_tbl[1380]? = some (Cond.code (mY 158) (mB 158) (mM 158) (mR 158)) := rfl
set_option maxRecDepth 100000 in
theorem mc_159 : lw_tbl[1384]? = some (Cond.code (mY 159) (mB 159) (mM 159) (mR 159)) := rfl
set_option maxRecDepth 100000 in
theorem mc_160 : lw_tbl[1392]? = some (Cond.code (mY 160) (mB 160) (mM 160) (mR 160)) := rfl
set_option maxRecDepth 100000 in
theorem mc_161 : lw_tbl[1388]? = some (Cond.code (mY 161) (mB 161) (mM 161) (mR 161)) := rfl
set_option maxRecDepth 100000 in
theorem mc_162 : lw_tbl[1396]? = some (Cond.code (mY 162) (mB 162) (mM 162) (mR 162)) := rfl
set_option maxRecDepth 100000 in
theorem mc_163 : lw_tbl[1400]? = some (Cond.code (mY 163) (mB 163) (mM 163) (mR 163)) := rfl
set_option maxRecDepth 100000 in
theorem mc_164 : lw_tbl[1404]? = some (Cond.code (mY 164) (mB 164) (mM 164) (mR 164)) := rfl
set_option maxRecDepth 100000 in
theorem mc_165 : lw_tbl[1412]? = some (Cond.code (mY 165) (mB 165) (mM 165) (mR 165)) := rfl
set_option maxRecDepth 100000 in
theorem mc_166 : lw_tbl[1416]? = some (Cond.code (mY 166) (mB 166) (mM 166) (mR 166)) := rfl
set_option maxRecDepth 100000 in
theorem mc_167 : lw_tbl[1408]? = some (Cond.code (mY 167) (mB 167) (mM 167) (mR 167)) := rfl
set_option maxRecDepth 100000 in
theorem mc_168 : lw_tbl[1424]? = some (Cond.code (mY 168) (mB 168) (mM 168) (mR 168)) := rfl
set_option maxRecDepth 100000 in
theorem mc_169 : lw_tbl[1427]? = some (Cond.code (mY 169) (mB 169) (mM 169) (mR 169)) := rfl
set_option maxRecDepth 100000 in
theorem mc_170 : lw_tbl[1420]? = some (Cond.code (mY 170) (mB 170) (mM 170) (mR 170)) := rfl
set_option maxRecDepth 100000 in
theorem mc_171 : lw_tbl[1431]? = some (Cond.code (mY 171) (mB 171) (mM 171) (mR 171)) := rfl
set_option maxRecDepth 100000 in
theorem mc_172 : lw_tbl[1435]? = some (Cond.code (mY 172) (mB 172) (mM 172) (mR 172)) := rfl
set_option maxRecDepth 100000 in
theorem mc_173 : lw_tbl[1439]? = some (Cond.code (mY 173) (mB 173) (mM 173) (mR 173)) := rfl
set_option maxRecDepth 100000 in
theorem mc_174 : lw_tbl[1443]? = some (Cond.code (mY 174) (mB 174) (mM 174) (mR 174)) := rfl
set_option maxRecDepth 100000 in
theorem mc_175 : lw_tbl[1447]? = some (Cond.code (mY 175) (mB 175) (mM 175) (mR 175)) := rfl
set_option maxRecDepth 100000 in
theorem mc_176 : lw_tbl[1451]? = some (Cond.code (mY 176) (mB 176) (mM 176) (mR 176)) := rfl
set_option maxRecDepth 100000 in
theorem mc_177 : lw_tbl[1459]? = some (Cond.code (mY 177) (mB 177) (mM 177) (mR 177)) := rfl
set_option maxRecDepth 100000 in
theorem mc_178 : lw_tbl[1455]? = some (Cond.code (mY 178) (mB 178) (mM 178) (mR 178)) := rfl
set_option maxRecDepth 100000 in
theorem mc_179 : lw_tbl[1463]? = some (Cond.code (mY 179) (mB 179) (mM 179) (mR 179)) := rfl
set_option maxRecDepth 100000 in
theorem mc_180 : lw_tbl[1467]? = some (Cond.code (mY 180) (mB 180) (mM 180) (mR 180)) := rfl
set_option maxRecDepth 100000 in
theorem mc_181 : lw_tbl[1474]? = some (Cond.code (mY 181) (mB 181) (mM 181) (mR 181)) := rfl
set_option maxRecDepth 100000 in
theorem mc_182 : lw_tbl[1471]? = some (Cond.code (mY 182) (mB 182) (mM 182) (mR 182)) := rfl
set_option maxRecDepth 100000 in
theorem mc_183 : lw_tbl[1478]? = some (Cond.code (mY 183) (mB 183) (mM 183) (mR 183)) := rfl
set_option maxRecDepth 100000 in
theorem mc_184 : lw_tbl[1482]? = some (Cond.code (mY 184) (mB 184) (mM 184) (mR 184)) := rfl
set_option maxRecDepth 100000 in
theorem mc_185 : lw_tbl[1486]? = some (Cond.code (mY 185) (mB 185) (mM 185) (mR 185)) := rfl
set_option maxRecDepth 100000 in
theorem mc_186 : lw_tbl[860]? = some (Cond.code (mY 186) (mB 186) (mM 186) (mR 186)) := rfl
theorem fW_ok : (List.range 11).flatMap (fun ci => u_ws (cR ci) (cT ci) (cN ci)) = fP.filterMap (fun i => lw_tbl[i]?) := by decide +kernel
theorem okM_0 : ((List.range 12).map (fun i => okM (i + 0))).all id = true := by decide +kernel
theorem okM_1 : ((List.range 12).map (fun i => okM (i + 12))).all id = true := by decide +kernel
theorem okM_2 : ((List.range 12).map (fun i => okM (i + 24))).all id = true := by decide +kernel
theorem okM_3 : ((List.range 12).map (fun i => okM (i + 36))).all id = true := by decide +kernel
theorem okM_4 : ((List.range 12).map (fun i => okM (i + 48))).all id = true := by decide +kernel
theorem okM_5 : ((List.range 12).map (fun i => okM (i + 60))).all id = true := by decide +kernel
theorem okM_6 : ((List.range 12).map (fun i => okM (i + 72))).all id = true := by decide +kernel
theorem okM_7 : ((List.range 12).map (fun i => okM (i + 84))).all id = true := by decide +kernel
theorem okM_8 : ((List.range 12).map (fun i => okM (i + 96))).all id = true := by decide +kernel
theorem okM_9 : ((List.range 12).map (fun i => okM (i + 108))).all id = true := by decide +kernel
theorem okM_10 : ((List.range 12).map (fun i => okM (i + 120))).all id = true := by decide +kernel
theorem okM_11 : ((List.range 12).map (fun i => okM (i + 132))).all id = true := by decide +kernel
theorem okM_12 : ((List.range 12).map (fun i => okM (i + 144))).all id = true := by decide +kernel
theorem okM_13 : ((List.range 12).map (fun i => okM (i + 156))).all id = true := by decide +kernel
theorem okM_14 : ((List.range 12).map (fun i => okM (i + 168))).all id = true := by decide +kernel
theorem okM_15 : ((List.range 7).map (fun i => okM (i + 180))).all id = true := by decide +kernel
theorem okM_all : ∀ mi, mi < 187 → okM mi = true := by
  intro mi h
  have hh : ∀ j k c, ((List.range c).map (fun i => okM (i + j))).all id = true → j ≤ k → k < j + c → okM k = true := by
    intro j k c h1 h2 h3
    have := List.all_eq_true.mp h1 (okM (k - j + j)) (List.mem_map.mpr ⟨k - j, List.mem_range.mpr (by omega), rfl⟩)
    rwa [Nat.sub_add_cancel h2] at this
  rcases Nat.lt_or_ge mi 12 with q | q0
  · exact hh 0 mi 12 okM_0 (by omega) q
  rcases Nat.lt_or_ge mi 24 with q | q12
  · exact hh 12 mi 12 okM_1 (by omega) q
  rcases Nat.lt_or_ge mi 36 with q | q24
  · exact hh 24 mi 12 okM_2 (by omega) q
  rcases Nat.lt_or_ge mi 48 with q | q36
  · exact hh 36 mi 12 okM_3 (by omega) q
  rcases Nat.lt_or_ge mi 60 with q | q48
  · exact hh 48 mi 12 okM_4 (by omega) q
  rcases Nat.lt_or_ge mi 72 with q | q60
  · exact hh 60 mi 12 okM_5 (by omega) q
  rcases Nat.lt_or_ge mi 84 with q | q72
  · exact hh 72 mi 12 okM_6 (by omega) q
  rcases Nat.lt_or_ge mi 96 with q | q84
  · exact hh 84 mi 12 okM_7 (by omega) q
  rcases Nat.lt_or_ge mi 108 with q | q96
  · exact hh 96 mi 12 okM_8 (by omega) q
  rcases Nat.lt_or_ge mi 120 with q | q108
  · exact hh 108 mi 12 okM_9 (by omega) q
  rcases Nat.lt_or_ge mi 132 with q | q120
  · exact hh 120 mi 12 okM_10 (by omega) q
  rcases Nat.lt_or_ge mi 144 with q | q132
  · exact hh 132 mi 12 okM_11 (by omega) q
  rcases Nat.lt_or_ge mi 156 with q | q144
  · exact hh 144 mi 12 okM_12 (by omega) q
  rcases Nat.lt_or_ge mi 168 with q | q156
  · exact hh 156 mi 12 okM_13 (by omega) q
  rcases Nat.lt_or_ge mi 180 with q | q168
  · exact hh 168 mi 12 okM_14 (by omega) q
  rcases Nat.lt_or_ge mi 187 with q | q180
  · exact hh 180 mi 7 okM_15 (by omega) q
  omega
theorem mc_all : ∀ mi, mi < 187 → Cond.code (mY mi) (mB mi) (mM mi) (mR mi) ∈ lw_tbl := by
  intro mi h
  match mi, h with
  | 0, _ => exact List.mem_of_getElem? mc_0
  | 1, _ => exact List.mem_of_getElem? mc_1
  | 2, _ => exact List.mem_of_getElem? mc_2
  | 3, _ => exact List.mem_of_getElem? mc_3
  | 4, _ => exact List.mem_of_getElem? mc_4
  | 5, _ => exact List.mem_of_getElem? mc_5
  | 6, _ => exact List.mem_of_getElem? mc_6
  | 7, _ => exact List.mem_of_getElem? mc_7
  | 8, _ => exact List.mem_of_getElem? mc_8
  | 9, _ => exact List.mem_of_getElem? mc_9
  | 10, _ => exact List.mem_of_getElem? mc_10
  | 11, _ => exact List.mem_of_getElem? mc_11
  | 12, _ => exact List.mem_of_getElem? mc_12
  | 13, _ => exact List.mem_of_getElem? mc_13
  | 14, _ => exact List.mem_of_getElem? mc_14
  | 15, _ => exact List.mem_of_getElem? mc_15
  | 16, _ => exact List.mem_of_getElem? mc_16
  | 17, _ => exact List.mem_of_getElem? mc_17
  | 18, _ => exact List.mem_of_getElem? mc_18
  | 19, _ => exact List.mem_of_getElem? mc_19
  | 20, _ => exact List.mem_of_getElem? mc_20
  | 21, _ => exact List.mem_of_getElem? mc_21
  | 22, _ => exact List.mem_of_getElem? mc_22
  | 23, _ => exact List.mem_of_getElem? mc_23
  | 24, _ => exact List.mem_of_getElem? mc_24
  | 25, _ => exact List.mem_of_getElem? mc_25
  | 26, _ => exact List.mem_of_getElem? mc_26
  | 27, _ => exact List.mem_of_getElem? mc_27
  | 28, _ => exact List.mem_of_getElem? mc_28
  | 29, _ => exact List.mem_of_getElem? mc_29
  | 30, _ => exact List.mem_of_getElem? mc_30
  | 31, _ => exact List.mem_of_getElem? mc_31
  | 32, _ => exact List.mem_of_getElem? mc_32
  | 33, _ => exact List.mem_of_getElem? mc_33
  | 34, _ => exact List.mem_of_getElem? mc_34
  | 35, _ => exact List.mem_of_getElem? mc_35
  | 36, _ => exact List.mem_of_getElem? mc_36
  | 37, _ => exact List.mem_of_getElem? mc_37
  | 38, _ => exact List.mem_of_getElem? mc_38
  | 39, _ => exact List.mem_of_getElem? mc_39
  | 40, _ => exact List.mem_of_getElem? mc_40
  | 41, _ => exact List.mem_of_getElem? mc_41
  | 42, _ => exact List.mem_of_getElem? mc_42
  | 43, _ => exact List.mem_of_getElem? mc_43
  | 44, _ => exact List.mem_of_getElem? mc_44
  | 45, _ => exact List.mem_of_getElem? mc_45
  | 46, _ => exact List.mem_of_getElem? mc_46
  | 47, _ => exact List.mem_of_getElem? mc_47
  | 48, _ => exact List.mem_of_getElem? mc_48
  | 49, _ => exact List.mem_of_getElem? mc_49
  | 50, _ => exact List.mem_of_getElem? mc_50
  | 51, _ => exact List.mem_of_getElem? mc_51
  | 52, _ => exact List.mem_of_getElem? mc_52
  | 53, _ => exact List.mem_of_getElem? mc_53
  | 54, _ => exact List.mem_of_getElem? mc_54
  | 55, _ => exact List.mem_of_getElem? mc_55
  | 56, _ => exact List.mem_of_getElem? mc_56
  | 57, _ => exact List.mem_of_getElem? mc_57
  | 58, _ => exact List.mem_of_getElem? mc_58
  | 59, _ => exact List.mem_of_getElem? mc_59
  | 60, _ => exact List.mem_of_getElem? mc_60
  | 61, _ => exact List.mem_of_getElem? mc_61
  | 62, _ => exact List.mem_of_getElem? mc_62
  | 63, _ => exact List.mem_of_getElem? mc_63
  | 64, _ => exact List.mem_of_getElem? mc_64
  | 65, _ => exact List.mem_of_getElem? mc_65
  | 66, _ => exact List.mem_of_getElem? mc_66
  | 67, _ => exact List.mem_of_getElem? mc_67
  | 68, _ => exact List.mem_of_getElem? mc_68
  | 69, _ => exact List.mem_of_getElem? mc_69
  | 70, _ => exact List.mem_of_getElem? mc_70
  | 71, _ => exact List.mem_of_getElem? mc_71
  | 72, _ => exact List.mem_of_getElem? mc_72
  | 73, _ => exact List.mem_of_getElem? mc_73
  | 74, _ => exact List.mem_of_getElem? mc_74
  | 75, _ => exact List.mem_of_getElem? mc_75
  | 76, _ => exact List.mem_of_getElem? mc_76
  | 77, _ => exact List.mem_of_getElem? mc_77
  | 78, _ => exact List.mem_of_getElem? mc_78
  | 79, _ => exact List.mem_of_getElem? mc_79
  | 80, _ => exact List.mem_of_getElem? mc_80
  | 81, _ => exact List.mem_of_getElem? mc_81
  | 82, _ => exact List.mem_of_getElem? mc_82
  | 83, _ => exact List.mem_of_getElem? mc_83
  | 84, _ => exact List.mem_of_getElem? mc_84
  | 85, _ => exact List.mem_of_getElem? mc_85
  | 86, _ => exact List.mem_of_getElem? mc_86
  | 87, _ => exact List.mem_of_getElem? mc_87
  | 88, _ => exact List.mem_of_getElem? mc_88
  | 89, _ => exact List.mem_of_getElem? mc_89
  | 90, _ => exact List.mem_of_getElem? mc_90
  | 91, _ => exact List.mem_of_getElem? mc_91
  | 92, _ => exact List.mem_of_getElem? mc_92
  | 93, _ => exact List.mem_of_getElem? mc_93
  | 94, _ => exact List.mem_of_getElem? mc_94
  | 95, _ => exact List.mem_of_getElem? mc_95
  | 96, _ => exact List.mem_of_getElem? mc_96
  | 97, _ => exact List.mem_of_getElem? mc_97
  | 98, _ => exact List.mem_of_getElem? mc_98
  | 99, _ => exact List.mem_of_getElem? mc_99
  | 100, _ => exact List.mem_of_getElem? mc_100
  | 101, _ => exact List.mem_of_getElem? mc_101
  | 102, _ => exact List.mem_of_getElem? mc_102
  | 103, _ => exact List.mem_of_getElem? mc_103
  | 104, _ => exact List.mem_of_getElem? mc_104
  | 105, _ => exact List.mem_of_getElem? mc_105
  | 106, _ => exact List.mem_of_getElem? mc_106
  | 107, _ => exact List.mem_of_getElem? mc_107
  | 108, _ => exact List.mem_of_getElem? mc_108
  | 109, _ => exact List.mem_of_getElem? mc_109
  | 110, _ => exact List.mem_of_getElem? mc_110
  | 111, _ => exact List.mem_of_getElem? mc_111
  | 112, _ => exact List.mem_of_getElem? mc_112
  | 113, _ => exact List.mem_of_getElem? mc_113
  | 114, _ => exact List.mem_of_getElem? mc_114
  | 115, _ => exact List.mem_of_getElem? mc_115
  | 116, _ => exact List.mem_of_getElem? mc_116
  | 117, _ => exact List.mem_of_getElem? mc_117
  | 118, _ => exact List.mem_of_getElem? mc_118
  | 119, _ => exact List.mem_of_getElem? mc_119
  | 120, _ => exact List.mem_of_getElem? mc_120
  | 121, _ => exact List.mem_of_getElem? mc_121
  | 122, _ => exact List.mem_of_getElem? mc_122
  | 123, _ => exact List.mem_of_getElem? mc_123
  | 124, _ => exact List.mem_of_getElem? mc_124
  | 125, _ => exact List.mem_of_getElem? mc_125
  | 126, _ => exact List.mem_of_getElem? mc_126
  | 127, _ => exact List.mem_of_getElem? mc_127
  | 128, _ => exact List.mem_of_getElem? mc_128
  | 129, _ => exact List.mem_of_getElem? mc_129
  | 130, _ => exact List.mem_of_getElem? mc_130
  | 131, _ => exact List.mem_of_getElem? mc_131
  | 132, _ => exact List.mem_of_getElem? mc_132
  | 133, _ => exact List.mem_of_getElem? mc_133
  | 134, _ => exact List.mem_of_getElem? mc_134
  | 135, _ => exact List.mem_of_getElem? mc_135
  | 136, _ => exact List.mem_of_getElem? mc_136
  | 137, _ => exact List.mem_of_getElem? mc_137
  | 138, _ => exact List.mem_of_getElem? mc_138
  | 139, _ => exact List.mem_of_getElem? mc_139
  | 140, _ => exact List.mem_of_getElem? mc_140
  | 141, _ => exact List.mem_of_getElem? mc_141
  | 142, _ => exact List.mem_of_getElem? mc_142
  | 143, _ => exact List.mem_of_getElem? mc_143
  | 144, _ => exact List.mem_of_getElem? mc_144
  | 145, _ => exact List.mem_of_getElem? mc_145
  | 146, _ => exact List.mem_of_getElem? mc_146
  | 147, _ => exact List.mem_of_getElem? mc_147
  | 148, _ => exact List.mem_of_getElem? mc_148
  | 149, _ => exact List.mem_of_getElem? mc_149
  | 150, _ => exact List.mem_of_getElem? mc_150
  | 151, _ => exact List.mem_of_getElem? mc_151
  | 152, _ => exact List.mem_of_getElem? mc_152
  | 153, _ => exact List.mem_of_getElem? mc_153
  | 154, _ => exact List.mem_of_getElem? mc_154
  | 155, _ => exact List.mem_of_getElem? mc_155
  | 156, _ => exact List.mem_of_getElem? mc_156
  | 157, _ => exact List.mem_of_getElem? mc_157
  | 158, _ => exact List.mem_of_getElem? mc_158
  | 159, _ => exact List.mem_of_getElem? mc_159
  | 160, _ => exact List.mem_of_getElem? mc_160
  | 161, _ => exact List.mem_of_getElem? mc_161
  | 162, _ => exact List.mem_of_getElem? mc_162
  | 163, _ => exact List.mem_of_getElem? mc_163
  | 164, _ => exact List.mem_of_getElem? mc_164
  | 165, _ => exact List.mem_of_getElem? mc_165
  | 166, _ => exact List.mem_of_getElem? mc_166
  | 167, _ => exact List.mem_of_getElem? mc_167
  | 168, _ => exact List.mem_of_getElem? mc_168
  | 169, _ => exact List.mem_of_getElem? mc_169
  | 170, _ => exact List.mem_of_getElem? mc_170
  | 171, _ => exact List.mem_of_getElem? mc_171
  | 172, _ => exact List.mem_of_getElem? mc_172
  | 173, _ => exact List.mem_of_getElem? mc_173
  | 174, _ => exact List.mem_of_getElem? mc_174
  | 175, _ => exact List.mem_of_getElem? mc_175
  | 176, _ => exact List.mem_of_getElem? mc_176
  | 177, _ => exact List.mem_of_getElem? mc_177
  | 178, _ => exact List.mem_of_getElem? mc_178
  | 179, _ => exact List.mem_of_getElem? mc_179
  | 180, _ => exact List.mem_of_getElem? mc_180
  | 181, _ => exact List.mem_of_getElem? mc_181
  | 182, _ => exact List.mem_of_getElem? mc_182
  | 183, _ => exact List.mem_of_getElem? mc_183
  | 184, _ => exact List.mem_of_getElem? mc_184
  | 185, _ => exact List.mem_of_getElem? mc_185
  | 186, _ => exact List.mem_of_getElem? mc_186
  | n + 187, h => omega
