theorem q_k75_0 : q_chR 75 (100 * 0) 100 = true := by decide +kernel
theorem q_k75_1 : q_chR 75 (100 * 1) 100 = true := by decide +kernel
theorem q_k75_2 : q_chR 75 (100 * 2) 100 = true := by decide +kernel
theorem q_m75 : q_OK 75 := q_cov (n := 3) (by decide +kernel) (lt_s (lt_s (lt_s lt_0 q_k75_0) q_k75_1) q_k75_2)
theorem q_k76_0 : q_chR 76 (100 * 0) 100 = true := by decide +kernel
theorem q_m76 : q_OK 76 := q_cov (n := 1) (by decide +kernel) (lt_s lt_0 q_k76_0)
theorem q_k77_0 : q_chR 77 (100 * 0) 100 = true := by decide +kernel
theorem q_k77_1 : q_chR 77 (100 * 1) 100 = true := by decide +kernel
theorem q_k77_2 : q_chR 77 (100 * 2) 100 = true := by decide +kernel
theorem q_m77 : q_OK 77 := q_cov (n := 3) (by decide +kernel) (lt_s (lt_s (lt_s lt_0 q_k77_0) q_k77_1) q_k77_2)
theorem q_k78_0 : q_chR 78 (100 * 0) 100 = true := by decide +kernel
theorem q_k78_1 : q_chR 78 (100 * 1) 100 = true := by decide +kernel
theorem q_m78 : q_OK 78 := q_cov (n := 2) (by decide +kernel) (lt_s (lt_s lt_0 q_k78_0) q_k78_1)
theorem q_k79_0 : q_chR 79 (100 * 0) 100 = true := by decide +kernel
theorem q_k79_1 : q_chR 79 (100 * 1) 100 = true := by decide +kernel
theorem q_m79 : q_OK 79 := q_cov (n := 2) (by decide +kernel) (lt_s (lt_s lt_0 q_k79_0) q_k79_1)
theorem q_k80_0 : q_chR 80 (100 * 0) 100 = true := by decide +kernel
theorem q_m80 : q_OK 80 := q_cov (n := 1) (by decide +kernel) (lt_s lt_0 q_k80_0)
theorem q_k81_0 : q_chR 81 (100 * 0) 100 = true := by decide +kernel
theorem q_k81_1 : q_chR 81 (100 * 1) 100 = true := by decide +kernel
theorem q_m81 : q_OK 81 := q_cov (n := 2) (by decide +kernel) (lt_s (lt_s lt_0 q_k81_0) q_k81_1)
theorem q_k82_0 : q_chR 82 (100 * 0) 100 = true := by decide +kernel
theorem q_m82 : q_OK 82 := q_cov (n := 1) (by decide +kernel) (lt_s lt_0 q_k82_0)
theorem q_k83_0 : q_chR 83 (100 * 0) 100 = true := by decide +kernel
theorem q_m83 : q_OK 83 := q_cov (n := 1) (by decide +kernel) (lt_s lt_0 q_k83_0)
theorem q_k84_0 : q_chR 84 (100 * 0) 100 = true := by decide +kernel
theorem q_m84 : q_OK 84 := q_cov (n := 1) (by decide +kernel) (lt_s lt_0 q_k84_0)
theorem q_k85_0 : q_chR 85 (100 * 0) 100 = true := by decide +kernel
theorem q_m85 : q_OK 85 := q_cov (n := 1) (by decide +kernel) (lt_s lt_0 q_k85_0)
theorem q_k86_0 : q_chR 86 (100 * 0) 100 = true := by decide +kernel
theorem q_k86_1 : q_chR 86 (100 * 1) 100 = true := by decide +kernel
theorem q_m86 : q_OK 86 := q_cov (n := 2) (by decide +kernel) (lt_s (lt_s lt_0 q_k86_0) q_k86_1)
theorem q_k87_0 : q_chR 87 (100 * 0) 100 = true := by decide +kernel
theorem q_k87_1 : q_chR 87 (100 * 1) 100 = true := by decide +kernel
theorem q_m87 : q_OK 87 := q_cov (n := 2) (by decide +kernel) (lt_s (lt_s lt_0 q_k87_0) q_k87_1)
theorem q_k88_0 : q_chR 88 (100 * 0) 100 = true := by decide +kernel
theorem q_m88 : q_OK 88 := q_cov (n := 1) (by decide +kernel) (lt_s lt_0 q_k88_0)
theorem q_k89_0 : q_chR 89 (100 * 0) 100 = true := by decide +kernel
theorem q_m89 : q_OK 89 := q_cov (n := 1) (by decide +kernel) (lt_s lt_0 q_k89_0)
theorem q_k90_0 : q_chR 90 (100 * 0) 100 = true := by decide +kernel
theorem q_m90 : q_OK 90 := q_cov (n := 1) (by decide +kernel) (lt_s lt_0 q_k90_0)
theorem q_k91_0 : q_chR 91 (100 * 0) 100 = true := by decide +kernel
theorem q_m91 : q_OK 91 := q_cov (n := 1) (by decide +kernel) (lt_s lt_0 q_k91_0)
theorem q_k92_0 : q_chR 92 (100 * 0) 100 = true := by decide +kernel
theorem q_m92 : q_OK 92 := q_cov (n := 1) (by decide +kernel) (lt_s lt_0 q_k92_0)
theorem q_k93_0 : q_chR 93 (100 * 0) 100 = true := by decide +kernel
theorem q_k93_1 : q_chR 93 (100 * 1) 100 = true := by decide +kernel
theorem q_m93 : q_OK 93 := q_cov (n := 2) (by decide +kernel) (lt_s (lt_s lt_0 q_k93_0) q_k93_1)
theorem q_k94_0 : q_chR 94 (100 * 0) 100 = true := by decide +kernel
theorem q_m94 : q_OK 94 := q_cov (n := 1) (by decide +kernel) (lt_s lt_0 q_k94_0)
theorem q_k95_0 : q_chR 95 (100 * 0) 100 = true := by decide +kernel
theorem q_m95 : q_OK 95 := q_cov (n := 1) (by decide +kernel) (lt_s lt_0 q_k95_0)
theorem q_k96_0 : q_chR 96 (100 * 0) 100 = true := by decide +kernel
theorem q_k96_1 : q_chR 96 (100 * 1) 100 = true := by decide +kernel
theorem q_m96 : q_OK 96 := q_cov (n := 2) (by decide +kernel) (lt_s (lt_s lt_0 q_k96_0) q_k96_1)
theorem q_k97_0 : q_chR 97 (100 * 0) 100 = true := by decide +kernel
theorem q_m97 : q_OK 97 := q_cov (n := 1) (by decide +kernel) (lt_s lt_0 q_k97_0)
theorem q_k98_0 : q_chR 98 (100 * 0) 100 = true := by decide +kernel
theorem q_m98 : q_OK 98 := q_cov (n := 1) (by decide +kernel) (lt_s lt_0 q_k98_0)
theorem q_k99_0 : q_chR 99 (100 * 0) 100 = true := by decide +kernel
theorem q_k99_1 : q_chR 99 (100 * 1) 100 = true := by decide +kernel
theorem q_m99 : q_OK 99 := q_cov (n := 2) (by decide +kernel) (lt_s (lt_s lt_0 q_k99_0) q_k99_1)
theorem q_k100_0 : q_chR 100 (100 * 0) 100 = true := by decide +kernel
theorem q_m100 : q_OK 100 := q_cov (n := 1) (by decide +kernel) (lt_s lt_0 q_k100_0)
theorem q_k101_0 : q_chR 101 (100 * 0) 100 = true := by decide +kernel
theorem q_m101 : q_OK 101 := q_cov (n := 1) (by decide +kernel) (lt_s lt_0 q_k101_0)
theorem q_k102_0 : q_chR 102 (100 * 0) 100 = true := by decide +kernel
theorem q_k102_1 : q_chR 102 (100 * 1) 100 = true := by decide +kernel
theorem q_m102 : q_OK 102 := q_cov (n := 2) (by decide +kernel) (lt_s (lt_s lt_0 q_k102_0) q_k102_1)
theorem q_k103_0 : q_chR 103 (100 * 0) 100 = true := by decide +kernel
theorem q_m103 : q_OK 103 := q_cov (n := 1) (by decide +kernel) (lt_s lt_0 q_k103_0)
theorem q_k104_0 : q_chR 104 (100 * 0) 100 = true := by decide +kernel
theorem q_m104 : q_OK 104 := q_cov (n := 1) (by decide +kernel) (lt_s lt_0 q_k104_0)
theorem q_k105_0 : q_chR 105 (100 * 0) 100 = true := by decide +kernel
theorem q_k105_1 : q_chR 105 (100 * 1) 100 = true := by decide +kernel
theorem q_m105 : q_OK 105 := q_cov (n := 2) (by decide +kernel) (lt_s (lt_s lt_0 q_k105_0) q_k105_1)
theorem q_k106_0 : q_chR 106 (100 * 0) 100 = true := by decide +kernel
theorem q_m106 : q_OK 106 := q_cov (n := 1) (by decide +kernel) (lt_s lt_0 q_k106_0)
theorem q_k107_0 : q_chR 107 (100 * 0) 100 = true := by decide +kernel
theorem q_m107 : q_OK 107 := q_cov (n := 1) (by decide +kernel) (lt_s lt_0 q_k107_0)
theorem q_k108_0 : q_chR 108 (100 * 0) 100 = true := by decide +kernel
theorem q_m108 : q_OK 108 := q_cov (n := 1) (by decide +kernel) (lt_s lt_0 q_k108_0)
theorem q_k109_0 : q_chR 109 (100 * 0) 100 = true := by decide +kernel
theorem q_m109 : q_OK 109 := q_cov (n := 1) (by decide +kernel) (lt_s lt_0 q_k109_0)
theorem q_k110_0 : q_chR 110 (100 * 0) 100 = true := by decide +kernel
theorem q_m110 : q_OK 110 := q_cov (n := 1) (by decide +kernel) (lt_s lt_0 q_k110_0)
theorem q_k111_0 : q_chR 111 (100 * 0) 100 = true := by decide +kernel
theorem q_k111_1 : q_chR 111 (100 * 1) 100 = true := by decide +kernel
theorem q_k111_2 : q_chR 111 (100 * 2) 100 = true := by decide +kernel
theorem q_m111 : q_OK 111 := q_cov (n := 3) (by decide +kernel) (lt_s (lt_s (lt_s lt_0 q_k111_0) q_k111_1) q_k111_2)
theorem q_k112_0 : q_chR 112 (100 * 0) 100 = true := by decide +kernel
theorem q_m112 : q_OK 112 := q_cov (n := 1) (by decide +kernel) (lt_s lt_0 q_k112_0)
theorem q_k113_0 : q_chR 113 (100 * 0) 100 = true := by decide +kernel
theorem q_m113 : q_OK 113 := q_cov (n := 1) (by decide +kernel) (lt_s lt_0 q_k113_0)
theorem q_k114_0 : q_chR 114 (100 * 0) 100 = true := by decide +kernel
theorem q_k114_1 : q_chR 114 (100 * 1) 100 = true := by decide +kernel
theorem q_m114 : q_OK 114 := q_cov (n := 2) (by decide +kernel) (lt_s (lt_s lt_0 q_k114_0) q_k114_1)
theorem q_k115_0 : q_chR 115 (100 * 0) 100 = true := by decide +kernel
theorem q_k115_1 : q_chR 115 (100 * 1) 100 = true := by decide +kernel
theorem q_k115_2 : q_chR 115 (100 * 2) 100 = true := by decide +kernel
theorem q_m115 : q_OK 115 := q_cov (n := 3) (by decide +kernel) (lt_s (lt_s (lt_s lt_0 q_k115_0) q_k115_1) q_k115_2)
theorem q_k116_0 : q_chR 116 (100 * 0) 100 = true := by decide +kernel
theorem q_m116 : q_OK 116 := q_cov (n := 1) (by decide +kernel) (lt_s lt_0 q_k116_0)
theorem q_k117_0 : q_chR 117 (100 * 0) 100 = true := by decide +kernel
theorem q_k117_1 : q_chR 117 (100 * 1) 100 = true := by decide +kernel
theorem q_m117 : q_OK 117 := q_cov (n := 2) (by decide +kernel) (lt_s (lt_s lt_0 q_k117_0) q_k117_1)
theorem q_k118_0 : q_chR 118 (100 * 0) 100 = true := by decide +kernel
theorem q_m118 : q_OK 118 := q_cov (n := 1) (by decide +kernel) (lt_s lt_0 q_k118_0)
theorem q_k119_0 : q_chR 119 (100 * 0) 100 = true := by decide +kernel
theorem q_m119 : q_OK 119 := q_cov (n := 1) (by decide +kernel) (lt_s lt_0 q_k119_0)
set_option maxRecDepth 100000 in
theorem q_cw_75 : lw_tbl[(q_mP 75).1]? = some (.code (q_mn 75) (q_cd 75) (q_mx 75) (q_rt 75)) := rfl
set_option maxRecDepth 100000 in
theorem q_cw_76 : lw_tbl[(q_mP 76).1]? = some (.code (q_mn 76) (q_cd 76) (q_mx 76) (q_rt 76)) := rfl
set_option maxRecDepth 100000 in
theorem q_cw_77 : lw_tbl[(q_mP 77).1]? = some (.code (q_mn 77) (q_cd 77) (q_mx 77) (q_rt 77)) := rfl
set_option maxRecDepth 100000 in
theorem q_cw_78 : lw_tbl[(q_mP 78).1]? = some (.code (q_mn 78) (q_cd 78) (q_mx 78) (q_rt 78)) := rfl
set_option maxRecDepth 100000 in
theorem q_cw_79 : lw_tbl[(q_mP 79).1]? = some (.code (q_mn 79) (q_cd 79) (q_mx 79) (q_rt 79)) := rfl
set_option maxRecDepth 100000 in
theorem q_cw_80 : lw_tbl[(q_mP 80).1]? = some (.code (q_mn 80) (q_cd 80) (q_mx 80) (q_rt 80)) := rfl
set_option maxRecDepth 100000 in
theorem q_cw_81 : lw_tbl[(q_mP 81).1]? = some (.code (q_mn 81) (q_cd 81) (q_mx 81) (q_rt 81)) := rfl
set_option maxRecDepth 100000 in
theorem q_cw_82 : lw_tbl[(q_mP 82).1]? = some (.code (q_mn 82) (q_cd 82) (q_mx 82) (q_rt 82)) := rfl
set_option maxRecDepth 100000 in
theorem q_cw_83 : lw_tbl[(q_mP 83).1]? = some (.code (q_mn 83) (q_cd 83) (q_mx 83) (q_rt 83)) := rfl
set_option maxRecDepth 100000 in
theorem q_cw_84 : lw_tbl[(q_mP 84).1]? = some (.code (q_mn 84) (q_cd 84) (q_mx 84) (q_rt 84)) := rfl
set_option maxRecDepth 100000 in
theorem q_cw_85 : lw_tbl[(q_mP 85).1]? = some (.code (q_mn 85) (q_cd 85) (q_mx 85) (q_rt 85)) := rfl
set_option maxRecDepth 100000 in
theorem q_cw_86 : lw_tbl[(q_mP 86).1]? = some (.code (q_mn 86) (q_cd 86) (q_mx 86) (q_rt 86)) := rfl
set_option maxRecDepth 100000 in
theorem q_cw_87 : lw_tbl[(q_mP 87).1]? = some (.code (q_mn 87) (q_cd 87) (q_mx 87) (q_rt 87)) := rfl
set_option maxRecDepth 100000 in
theorem q_cw_88 : lw_tbl[(q_mP 88).1]? = some (.code (q_mn 88) (q_cd 88) (q_mx 88) (q_rt 88)) := rfl
set_option maxRecDepth 100000 in
theorem q_cw_89 : lw_tbl[(q_mP 89).1]? = some (.code (q_mn 89) (q_cd 89) (q_mx 89) (q_rt 89)) := rfl
set_option maxRecDepth 100000 in
theorem q_cw_90 : lw_tbl[(q_mP 90).1]? = some (.code (q_mn 90) (q_cd 90) (q_mx 90) (q_rt 90)) := rfl
set_option maxRecDepth 100000 in
theorem q_cw_91 : lw_tbl[(q_mP 91).1]? = some (.code (q_mn 91) (q_cd 91) (q_mx 91) (q_rt 91)) := rfl
set_option maxRecDepth 100000 in
theorem q_cw_92 : lw_tbl[(q_mP 92).1]? = some (.code (q_mn 92) (q_cd 92) (q_mx 92) (q_rt 92)) := rfl
set_option maxRecDepth 100000 in
theorem q_cw_93 : lw_tbl[(q_mP 93).1]? = some (.code (q_mn 93) (q_cd 93) (q_mx 93) (q_rt 93)) := rfl
set_option maxRecDepth 100000 in
theorem q_cw_94 : lw_tbl[(q_mP 94).1]? = some (.code (q_mn 94) (q_cd 94) (q_mx 94) (q_rt 94)) := rfl
set_option maxRecDepth 100000 in
theorem q_cw_95 : lw_tbl[(q_mP 95).1]? = some (.code (q_mn 95) (q_cd 95) (q_mx 95) (q_rt 95)) := rfl
set_option maxRecDepth 100000 in
theorem q_cw_96 : lw_tbl[(q_mP 96).1]? = some (.code (q_mn 96) (q_cd 96) (q_mx 96) (q_rt 96)) := rfl
set_option maxRecDepth 100000 in
theorem q_cw_97 : lw_tbl[(q_mP 97).1]? = some (.code (q_mn 97) (q_cd 97) (q_mx 97) (q_rt 97)) := rfl
set_option maxRecDepth 100000 in
theorem q_cw_98 : lw_tbl[(q_mP 98).1]? = some (.code (q_mn 98) (q_cd 98) (q_mx 98) (q_rt 98)) := rfl
set_option maxRecDepth 100000 in
theorem q_cw_99 : lw_tbl[(q_mP 99).1]? = some (.code (q_mn 99) (q_cd 99) (q_mx 99) (q_rt 99)) := rfl
set_option maxRecDepth 100000 in
theorem q_cw_100 : lw_tbl[(q_mP 100).1]? = some (.code (q_mn 100) (q_cd 100) (q_mx 100) (q_rt 100)) := rfl
set_option maxRecDepth 100000 in
theorem q_cw_101 : lw_tbl[(q_mP 101).1]? = some (.code (q_mn 101) (q_cd 101) (q_mx 101) (q_rt 101)) := rfl
set_option maxRecDepth 100000 in
theorem q_cw_102 : lw_tbl[(q_mP 102).1]? = some (.code (q_mn 102) (q_cd 102) (q_mx 102) (q_rt 102)) := rfl
set_option maxRecDepth 100000 in
theorem q_cw_103 : lw_tbl[(q_mP 103).1]? = some (.code (q_mn 103) (q_cd 103) (q_mx 103) (q_rt 103)) := rfl
set_option maxRecDepth 100000 in
theorem q_cw_104 : lw_tbl[(q_mP 104).1]? = some (.code (q_mn 104) (q_cd 104) (q_mx 104) (q_rt 104)) := rfl
set_option maxRecDepth 100000 in
theorem q_cw_105 : lw_tbl[(q_mP 105).1]? = some (.code (q_mn 105) (q_cd 105) (q_mx 105) (q_rt 105)) := rfl
set_option maxRecDepth 100000 in
theorem q_cw_106 : lw_tbl[(q_mP 106).1]? = some (.code (q_mn 106) (q_cd 106) (q_mx 106) (q_rt 106)) := rfl
set_option maxRecDepth 100000 in
theorem q_cw_107 : lw_tbl[(q_mP 107).1]? = some (.code (q_mn 107) (q_cd 107) (q_mx 107) (q_rt 107)) := rfl
set_option maxRecDepth 100000 in
theorem q_cw_108 : lw_tbl[(q_mP 108).1]? = some (.code (q_mn 108) (q_cd 108) (q_mx 108) (q_rt 108)) := rfl
set_option maxRecDepth 100000 in
theorem q_cw_109 : lw_tbl[(q_mP 109).1]? = some (.code (q_mn 109) (q_cd 109) (q_mx 109) (q_rt 109)) := rfl
set_option maxRecDepth 100000 in
theorem q_cw_110 : lw_tbl[(q_mP 110).1]? = some (.code (q_mn 110) (q_cd 110) (q_mx 110) (q_rt 110)) := rfl
set_option maxRecDepth 100000 in
theorem q_cw_111 : lw_tbl[(q_mP 111).1]? = some (.code (q_mn 111) (q_cd 111) (q_mx 111) (q_rt 111)) := rfl
set_option maxRecDepth 100000 in
theorem q_cw_112 : lw_tbl[(q_mP 112).1]? = some (.code (q_mn 112) (q_cd 112) (q_mx 112) (q_rt 112)) := rfl
set_option maxRecDepth 100000 in
theorem q_cw_113 : lw_tbl[(q_mP 113).1]? = some (.code (q_mn 113) (q_cd 113) (q_mx 113) (q_rt 113)) := rfl
set_option maxRecDepth 100000 in
theorem q_cw_114 : lw_tbl[(q_mP 114).1]? = some (.code (q_mn 114) (q_cd 114) (q_mx 114) (q_rt 114)) := rfl
set_option maxRecDepth 100000 in
theorem q_cw_115 : lw_tbl[(q_mP 115).1]? = some (.code (q_mn 115) (q_cd 115) (q_mx 115) (q_rt 115)) := rfl
set_option maxRecDepth 100000 in
theorem q_cw_116 : lw_tbl[(q_mP 116).1]? = some (.code (q_mn 116) (q_cd 116) (q_mx 116) (q_rt 116)) := rfl
set_option maxRecDepth 100000 in
theorem q_cw_117 : lw_tbl[(q_mP 117).1]? = some (.code (q_mn 117) (q_cd 117) (q_mx 117) (q_rt 117)) := rfl
set_option maxRecDepth 100000 in
theorem q_cw_118 : lw_tbl[(q_mP 118).1]? = some (.code (q_mn 118) (q_cd 118) (q_mx 118) (q_rt 118)) := rfl
set_option maxRecDepth 100000 in
theorem q_cw_119 : lw_tbl[(q_mP 119).1]? = some (.code (q_mn 119) (q_cd 119) (q_mx 119) (q_rt 119)) := rfl
