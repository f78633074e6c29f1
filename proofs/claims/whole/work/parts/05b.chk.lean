theorem q_k30_0 : q_chR 30 (100 * 0) 100 = true := by decide +kernel
theorem q_m30 : q_OK 30 := q_cov (n := 1) (by decide +kernel) (lt_s lt_0 q_k30_0)
theorem q_k31_0 : q_chR 31 (100 * 0) 100 = true := by decide +kernel
theorem q_m31 : q_OK 31 := q_cov (n := 1) (by decide +kernel) (lt_s lt_0 q_k31_0)
theorem q_k32_0 : q_chR 32 (100 * 0) 100 = true := by decide +kernel
theorem q_m32 : q_OK 32 := q_cov (n := 1) (by decide +kernel) (lt_s lt_0 q_k32_0)
theorem q_k33_0 : q_chR 33 (100 * 0) 100 = true := by decide +kernel
theorem q_m33 : q_OK 33 := q_cov (n := 1) (by decide +kernel) (lt_s lt_0 q_k33_0)
theorem q_k34_0 : q_chR 34 (100 * 0) 100 = true := by decide +kernel
theorem q_m34 : q_OK 34 := q_cov (n := 1) (by decide +kernel) (lt_s lt_0 q_k34_0)
theorem q_k35_0 : q_chR 35 (100 * 0) 100 = true := by decide +kernel
theorem q_m35 : q_OK 35 := q_cov (n := 1) (by decide +kernel) (lt_s lt_0 q_k35_0)
theorem q_k36_0 : q_chR 36 (100 * 0) 100 = true := by decide +kernel
theorem q_m36 : q_OK 36 := q_cov (n := 1) (by decide +kernel) (lt_s lt_0 q_k36_0)
theorem q_k37_0 : q_chR 37 (100 * 0) 100 = true := by decide +kernel
theorem q_m37 : q_OK 37 := q_cov (n := 1) (by decide +kernel) (lt_s lt_0 q_k37_0)
theorem q_k38_0 : q_chR 38 (100 * 0) 100 = true := by decide +kernel
theorem q_k38_1 : q_chR 38 (100 * 1) 100 = true := by decide +kernel
theorem q_m38 : q_OK 38 := q_cov (n := 2) (by decide +kernel) (lt_s (lt_s lt_0 q_k38_0) q_k38_1)
theorem q_k39_0 : q_chR 39 (100 * 0) 100 = true := by decide +kernel
theorem q_k39_1 : q_chR 39 (100 * 1) 100 = true := by decide +kernel
theorem q_m39 : q_OK 39 := q_cov (n := 2) (by decide +kernel) (lt_s (lt_s lt_0 q_k39_0) q_k39_1)
theorem q_k40_0 : q_chR 40 (100 * 0) 100 = true := by decide +kernel
theorem q_m40 : q_OK 40 := q_cov (n := 1) (by decide +kernel) (lt_s lt_0 q_k40_0)
theorem q_k41_0 : q_chR 41 (100 * 0) 100 = true := by decide +kernel
theorem q_m41 : q_OK 41 := q_cov (n := 1) (by decide +kernel) (lt_s lt_0 q_k41_0)
theorem q_k42_0 : q_chR 42 (100 * 0) 100 = true := by decide +kernel
theorem q_m42 : q_OK 42 := q_cov (n := 1) (by decide +kernel) (lt_s lt_0 q_k42_0)
theorem q_k43_0 : q_chR 43 (100 * 0) 100 = true := by decide +kernel
theorem q_m43 : q_OK 43 := q_cov (n := 1) (by decide +kernel) (lt_s lt_0 q_k43_0)
theorem q_k44_0 : q_chR 44 (100 * 0) 100 = true := by decide +kernel
theorem q_m44 : q_OK 44 := q_cov (n := 1) (by decide +kernel) (lt_s lt_0 q_k44_0)
theorem q_k45_0 : q_chR 45 (100 * 0) 100 = true := by decide +kernel
theorem q_m45 : q_OK 45 := q_cov (n := 1) (by decide +kernel) (lt_s lt_0 q_k45_0)
theorem q_k46_0 : q_chR 46 (100 * 0) 100 = true := by decide +kernel
theorem q_m46 : q_OK 46 := q_cov (n := 1) (by decide +kernel) (lt_s lt_0 q_k46_0)
theorem q_k47_0 : q_chR 47 (100 * 0) 100 = true := by decide +kernel
theorem q_m47 : q_OK 47 := q_cov (n := 1) (by decide +kernel) (lt_s lt_0 q_k47_0)
theorem q_k48_0 : q_chR 48 (100 * 0) 100 = true := by decide +kernel
theorem q_k48_1 : q_chR 48 (100 * 1) 100 = true := by decide +kernel
theorem q_m48 : q_OK 48 := q_cov (n := 2) (by decide +kernel) (lt_s (lt_s lt_0 q_k48_0) q_k48_1)
theorem q_k49_0 : q_chR 49 (100 * 0) 100 = true := by decide +kernel
theorem q_m49 : q_OK 49 := q_cov (n := 1) (by decide +kernel) (lt_s lt_0 q_k49_0)
theorem q_k50_0 : q_chR 50 (100 * 0) 100 = true := by decide +kernel
theorem q_m50 : q_OK 50 := q_cov (n := 1) (by decide +kernel) (lt_s lt_0 q_k50_0)
theorem q_k51_0 : q_chR 51 (100 * 0) 100 = true := by decide +kernel
theorem q_m51 : q_OK 51 := q_cov (n := 1) (by decide +kernel) (lt_s lt_0 q_k51_0)
theorem q_k52_0 : q_chR 52 (100 * 0) 100 = true := by decide +kernel
theorem q_m52 : q_OK 52 := q_cov (n := 1) (by decide +kernel) (lt_s lt_0 q_k52_0)
theorem q_k53_0 : q_chR 53 (100 * 0) 100 = true := by decide +kernel
theorem q_m53 : q_OK 53 := q_cov (n := 1) (by decide +kernel) (lt_s lt_0 q_k53_0)
theorem q_k54_0 : q_chR 54 (100 * 0) 100 = true := by decide +kernel
theorem q_m54 : q_OK 54 := q_cov (n := 1) (by decide +kernel) (lt_s lt_0 q_k54_0)
theorem q_k55_0 : q_chR 55 (100 * 0) 100 = true := by decide +kernel
theorem q_m55 : q_OK 55 := q_cov (n := 1) (by decide +kernel) (lt_s lt_0 q_k55_0)
theorem q_k56_0 : q_chR 56 (100 * 0) 100 = true := by decide +kernel
theorem q_m56 : q_OK 56 := q_cov (n := 1) (by decide +kernel) (lt_s lt_0 q_k56_0)
theorem q_k57_0 : q_chR 57 (100 * 0) 100 = true := by decide +kernel
theorem q_m57 : q_OK 57 := q_cov (n := 1) (by decide +kernel) (lt_s lt_0 q_k57_0)
theorem q_k58_0 : q_chR 58 (100 * 0) 100 = true := by decide +kernel
theorem q_m58 : q_OK 58 := q_cov (n := 1) (by decide +kernel) (lt_s lt_0 q_k58_0)
theorem q_k59_0 : q_chR 59 (100 * 0) 100 = true := by decide +kernel
theorem q_m59 : q_OK 59 := q_cov (n := 1) (by decide +kernel) (lt_s lt_0 q_k59_0)
theorem q_k60_0 : q_chR 60 (100 * 0) 100 = true := by decide +kernel
theorem q_m60 : q_OK 60 := q_cov (n := 1) (by decide +kernel) (lt_s lt_0 q_k60_0)
theorem q_k61_0 : q_chR 61 (100 * 0) 100 = true := by decide +kernel
theorem q_m61 : q_OK 61 := q_cov (n := 1) (by decide +kernel) (lt_s lt_0 q_k61_0)
theorem q_k62_0 : q_chR 62 (100 * 0) 100 = true := by decide +kernel
theorem q_m62 : q_OK 62 := q_cov (n := 1) (by decide +kernel) (lt_s lt_0 q_k62_0)
theorem q_k63_0 : q_chR 63 (100 * 0) 100 = true := by decide +kernel
theorem q_m63 : q_OK 63 := q_cov (n := 1) (by decide +kernel) (lt_s lt_0 q_k63_0)
theorem q_k64_0 : q_chR 64 (100 * 0) 100 = true := by decide +kernel
theorem q_k64_1 : q_chR 64 (100 * 1) 100 = true := by decide +kernel
theorem q_m64 : q_OK 64 := q_cov (n := 2) (by decide +kernel) (lt_s (lt_s lt_0 q_k64_0) q_k64_1)
theorem q_k65_0 : q_chR 65 (100 * 0) 100 = true := by decide +kernel
theorem q_m65 : q_OK 65 := q_cov (n := 1) (by decide +kernel) (lt_s lt_0 q_k65_0)
theorem q_k66_0 : q_chR 66 (100 * 0) 100 = true := by decide +kernel
theorem q_m66 : q_OK 66 := q_cov (n := 1) (by decide +kernel) (lt_s lt_0 q_k66_0)
theorem q_k67_0 : q_chR 67 (100 * 0) 100 = true := by decide +kernel
theorem q_m67 : q_OK 67 := q_cov (n := 1) (by decide +kernel) (lt_s lt_0 q_k67_0)
theorem q_k68_0 : q_chR 68 (100 * 0) 100 = true := by decide +kernel
theorem q_k68_1 : q_chR 68 (100 * 1) 100 = true := by decide +kernel
theorem q_m68 : q_OK 68 := q_cov (n := 2) (by decide +kernel) (lt_s (lt_s lt_0 q_k68_0) q_k68_1)
theorem q_k69_0 : q_chR 69 (100 * 0) 100 = true := by decide +kernel
theorem q_m69 : q_OK 69 := q_cov (n := 1) (by decide +kernel) (lt_s lt_0 q_k69_0)
theorem q_k70_0 : q_chR 70 (100 * 0) 100 = true := by decide +kernel
theorem q_k70_1 : q_chR 70 (100 * 1) 100 = true := by decide +kernel
theorem q_k70_2 : q_chR 70 (100 * 2) 100 = true := by decide +kernel
theorem q_m70 : q_OK 70 := q_cov (n := 3) (by decide +kernel) (lt_s (lt_s (lt_s lt_0 q_k70_0) q_k70_1) q_k70_2)
theorem q_k71_0 : q_chR 71 (100 * 0) 100 = true := by decide +kernel
theorem q_m71 : q_OK 71 := q_cov (n := 1) (by decide +kernel) (lt_s lt_0 q_k71_0)
theorem q_k72_0 : q_chR 72 (100 * 0) 100 = true := by decide +kernel
theorem q_k72_1 : q_chR 72 (100 * 1) 100 = true := by decide +kernel
theorem q_k72_2 : q_chR 72 (100 * 2) 100 = true := by decide +kernel
theorem q_m72 : q_OK 72 := q_cov (n := 3) (by decide +kernel) (lt_s (lt_s (lt_s lt_0 q_k72_0) q_k72_1) q_k72_2)
theorem q_k73_0 : q_chR 73 (100 * 0) 100 = true := by decide +kernel
theorem q_m73 : q_OK 73 := q_cov (n := 1) (by decide +kernel) (lt_s lt_0 q_k73_0)
theorem q_k74_0 : q_chR 74 (100 * 0) 100 = true := by decide +kernel
theorem q_m74 : q_OK 74 := q_cov (n := 1) (by decide +kernel) (lt_s lt_0 q_k74_0)
set_option maxRecDepth 100000 in
theorem q_cw_30 : lw_tbl[(q_mP 30).1]? = some (.code (q_mn 30) (q_cd 30) (q_mx 30) (q_rt 30)) := rfl
set_option maxRecDepth 100000 in
theorem q_cw_31 : lw_tbl[(q_mP 31).1]? = some (.code (q_mn 31) (q_cd 31) (q_mx 31) (q_rt 31)) := rfl
set_option maxRecDepth 100000 in
theorem q_cw_32 : lw_tbl[(q_mP 32).1]? = some (.code (q_mn 32) (q_cd 32) (q_mx 32) (q_rt 32)) := rfl
set_option maxRecDepth 100000 in
theorem q_cw_33 : lw_tbl[(q_mP 33).1]? = some (.code (q_mn 33) (q_cd 33) (q_mx 33) (q_rt 33)) := rfl
set_option maxRecDepth 100000 in
theorem q_cw_34 : lw_tbl[(q_mP 34).1]? = some (.code (q_mn 34) (q_cd 34) (q_mx 34) (q_rt 34)) := rfl
set_option maxRecDepth 100000 in
theorem q_cw_35 : lw_tbl[(q_mP 35).1]? = some (.code (q_mn 35) (q_cd 35) (q_mx 35) (q_rt 35)) := rfl
set_option maxRecDepth 100000 in
theorem q_cw_36 : lw_tbl[(q_mP 36).1]? = some (.code (q_mn 36) (q_cd 36) (q_mx 36) (q_rt 36)) := rfl
set_option maxRecDepth 100000 in
theorem q_cw_37 : lw_tbl[(q_mP 37).1]? = some (.code (q_mn 37) (q_cd 37) (q_mx 37) (q_rt 37)) := rfl
set_option maxRecDepth 100000 in
theorem q_cw_38 : lw_tbl[(q_mP 38).1]? = some (.code (q_mn 38) (q_cd 38) (q_mx 38) (q_rt 38)) := rfl
set_option maxRecDepth 100000 in
theorem q_cw_39 : lw_tbl[(q_mP 39).1]? = some (.code (q_mn 39) (q_cd 39) (q_mx 39) (q_rt 39)) := rfl
set_option maxRecDepth 100000 in
theorem q_cw_40 : lw_tbl[(q_mP 40).1]? = some (.code (q_mn 40) (q_cd 40) (q_mx 40) (q_rt 40)) := rfl
set_option maxRecDepth 100000 in
theorem q_cw_41 : lw_tbl[(q_mP 41).1]? = some (.code (q_mn 41) (q_cd 41) (q_mx 41) (q_rt 41)) := rfl
set_option maxRecDepth 100000 in
theorem q_cw_42 : lw_tbl[(q_mP 42).1]? = some (.code (q_mn 42) (q_cd 42) (q_mx 42) (q_rt 42)) := rfl
set_option maxRecDepth 100000 in
theorem q_cw_43 : lw_tbl[(q_mP 43).1]? = some (.code (q_mn 43) (q_cd 43) (q_mx 43) (q_rt 43)) := rfl
set_option maxRecDepth 100000 in
theorem q_cw_44 : lw_tbl[(q_mP 44).1]? = some (.code (q_mn 44) (q_cd 44) (q_mx 44) (q_rt 44)) := rfl
set_option maxRecDepth 100000 in
theorem q_cw_45 : lw_tbl[(q_mP 45).1]? = some (.code (q_mn 45) (q_cd 45) (q_mx 45) (q_rt 45)) := rfl
set_option maxRecDepth 100000 in
theorem q_cw_46 : lw_tbl[(q_mP 46).1]? = some (.code (q_mn 46) (q_cd 46) (q_mx 46) (q_rt 46)) := rfl
set_option maxRecDepth 100000 in
theorem q_cw_47 : lw_tbl[(q_mP 47).1]? = some (.code (q_mn 47) (q_cd 47) (q_mx 47) (q_rt 47)) := rfl
set_option maxRecDepth 100000 in
theorem q_cw_48 : lw_tbl[(q_mP 48).1]? = some (.code (q_mn 48) (q_cd 48) (q_mx 48) (q_rt 48)) := rfl
set_option maxRecDepth 100000 in
theorem q_cw_49 : lw_tbl[(q_mP 49).1]? = some (.code (q_mn 49) (q_cd 49) (q_mx 49) (q_rt 49)) := rfl
set_option maxRecDepth 100000 in
theorem q_cw_50 : lw_tbl[(q_mP 50).1]? = some (.code (q_mn 50) (q_cd 50) (q_mx 50) (q_rt 50)) := rfl
set_option maxRecDepth 100000 in
theorem q_cw_51 : lw_tbl[(q_mP 51).1]? = some (.code (q_mn 51) (q_cd 51) (q_mx 51) (q_rt 51)) := rfl
set_option maxRecDepth 100000 in
theorem q_cw_52 : lw_tbl[(q_mP 52).1]? = some (.code (q_mn 52) (q_cd 52) (q_mx 52) (q_rt 52)) := rfl
set_option maxRecDepth 100000 in
theorem q_cw_53 : lw_tbl[(q_mP 53).1]? = some (.code (q_mn 53) (q_cd 53) (q_mx 53) (q_rt 53)) := rfl
set_option maxRecDepth 100000 in
theorem q_cw_54 : lw_tbl[(q_mP 54).1]? = some (.code (q_mn 54) (q_cd 54) (q_mx 54) (q_rt 54)) := rfl
set_option maxRecDepth 100000 in
theorem q_cw_55 : lw_tbl[(q_mP 55).1]? = some (.code (q_mn 55) (q_cd 55) (q_mx 55) (q_rt 55)) := rfl
set_option maxRecDepth 100000 in
theorem q_cw_56 : lw_tbl[(q_mP 56).1]? = some (.code (q_mn 56) (q_cd 56) (q_mx 56) (q_rt 56)) := rfl
set_option maxRecDepth 100000 in
theorem q_cw_57 : lw_tbl[(q_mP 57).1]? = some (.code (q_mn 57) (q_cd 57) (q_mx 57) (q_rt 57)) := rfl
set_option maxRecDepth 100000 in
theorem q_cw_58 : lw_tbl[(q_mP 58).1]? = some (.code (q_mn 58) (q_cd 58) (q_mx 58) (q_rt 58)) := rfl
set_option maxRecDepth 100000 in
theorem q_cw_59 : lw_tbl[(q_mP 59).1]? = some (.code (q_mn 59) (q_cd 59) (q_mx 59) (q_rt 59)) := rfl
set_option maxRecDepth 100000 in
theorem q_cw_60 : lw_tbl[(q_mP 60).1]? = some (.code (q_mn 60) (q_cd 60) (q_mx 60) (q_rt 60)) := rfl
set_option maxRecDepth 100000 in
theorem q_cw_61 : lw_tbl[(q_mP 61).1]? = some (.code (q_mn 61) (q_cd 61) (q_mx 61) (q_rt 61)) := rfl
set_option maxRecDepth 100000 in
theorem q_cw_62 : lw_tbl[(q_mP 62).1]? = some (.code (q_mn 62) (q_cd 62) (q_mx 62) (q_rt 62)) := rfl
set_option maxRecDepth 100000 in
theorem q_cw_63 : lw_tbl[(q_mP 63).1]? = some (.code (q_mn 63) (q_cd 63) (q_mx 63) (q_rt 63)) := rfl
set_option maxRecDepth 100000 in
theorem q_cw_64 : lw_tbl[(q_mP 64).1]? = some (.code (q_mn 64) (q_cd 64) (q_mx 64) (q_rt 64)) := rfl
set_option maxRecDepth 100000 in
theorem q_cw_65 : lw_tbl[(q_mP 65).1]? = some (.code (q_mn 65) (q_cd 65) (q_mx 65) (q_rt 65)) := rfl
set_option maxRecDepth 100000 in
theorem q_cw_66 : lw_tbl[(q_mP 66).1]? = some (.code (q_mn 66) (q_cd 66) (q_mx 66) (q_rt 66)) := rfl
set_option maxRecDepth 100000 in
theorem q_cw_67 : lw_tbl[(q_mP 67).1]? = some (.code (q_mn 67) (q_cd 67) (q_mx 67) (q_rt 67)) := rfl
set_option maxRecDepth 100000 in
theorem q_cw_68 : lw_tbl[(q_mP 68).1]? = some (.code (q_mn 68) (q_cd 68) (q_mx 68) (q_rt 68)) := rfl
set_option maxRecDepth 100000 in
theorem q_cw_69 : lw_tbl[(q_mP 69).1]? = some (.code (q_mn 69) (q_cd 69) (q_mx 69) (q_rt 69)) := rfl
set_option maxRecDepth 100000 in
theorem q_cw_70 : lw_tbl[(q_mP 70).1]? = some (.code (q_mn 70) (q_cd 70) (q_mx 70) (q_rt 70)) := rfl
set_option maxRecDepth 100000 in
theorem q_cw_71 : lw_tbl[(q_mP 71).1]? = some (.code (q_mn 71) (q_cd 71) (q_mx 71) (q_rt 71)) := rfl
set_option maxRecDepth 100000 in
theorem q_cw_72 : lw_tbl[(q_mP 72).1]? = some (.code (q_mn 72) (q_cd 72) (q_mx 72) (q_rt 72)) := rfl
set_option maxRecDepth 100000 in
theorem q_cw_73 : lw_tbl[(q_mP 73).1]? = some (.code (q_mn 73) (q_cd 73) (q_mx 73) (q_rt 73)) := rfl
set_option maxRecDepth 100000 in
theorem q_cw_74 : lw_tbl[(q_mP 74).1]? = some (.code (q_mn 74) (q_cd 74) (q_mx 74) (q_rt 74)) := rfl
