theorem q_k120_0 : q_chR 120 (100 * 0) 100 = true := by decide +kernel
theorem q_m120 : q_OK 120 := q_cov (n := 1) (by decide +kernel) (lt_s lt_0 q_k120_0)
theorem q_k121_0 : q_chR 121 (100 * 0) 100 = true := by decide +kernel
theorem q_m121 : q_OK 121 := q_cov (n := 1) (by decide +kernel) (lt_s lt_0 q_k121_0)
theorem q_k122_0 : q_chR 122 (100 * 0) 100 = true := by decide +kernel
theorem q_m122 : q_OK 122 := q_cov (n := 1) (by decide +kernel) (lt_s lt_0 q_k122_0)
theorem q_k123_0 : q_chR 123 (100 * 0) 100 = true := by decide +kernel
theorem q_m123 : q_OK 123 := q_cov (n := 1) (by decide +kernel) (lt_s lt_0 q_k123_0)
theorem q_k124_0 : q_chR 124 (100 * 0) 100 = true := by decide +kernel
theorem q_m124 : q_OK 124 := q_cov (n := 1) (by decide +kernel) (lt_s lt_0 q_k124_0)
theorem q_k125_0 : q_chR 125 (100 * 0) 100 = true := by decide +kernel
theorem q_m125 : q_OK 125 := q_cov (n := 1) (by decide +kernel) (lt_s lt_0 q_k125_0)
theorem q_k126_0 : q_chR 126 (100 * 0) 100 = true := by decide +kernel
theorem q_m126 : q_OK 126 := q_cov (n := 1) (by decide +kernel) (lt_s lt_0 q_k126_0)
theorem q_k127_0 : q_chR 127 (100 * 0) 100 = true := by decide +kernel
theorem q_k127_1 : q_chR 127 (100 * 1) 100 = true := by decide +kernel
theorem q_k127_2 : q_chR 127 (100 * 2) 100 = true := by decide +kernel
theorem q_k127_3 : q_chR 127 (100 * 3) 100 = true := by decide +kernel
theorem q_m127 : q_OK 127 := q_cov (n := 4) (by decide +kernel) (lt_s (lt_s (lt_s (lt_s lt_0 q_k127_0) q_k127_1) q_k127_2) q_k127_3)
theorem q_k128_0 : q_chR 128 (100 * 0) 100 = true := by decide +kernel
theorem q_m128 : q_OK 128 := q_cov (n := 1) (by decide +kernel) (lt_s lt_0 q_k128_0)
theorem q_k129_0 : q_chR 129 (100 * 0) 100 = true := by decide +kernel
theorem q_m129 : q_OK 129 := q_cov (n := 1) (by decide +kernel) (lt_s lt_0 q_k129_0)
theorem q_k130_0 : q_chR 130 (100 * 0) 100 = true := by decide +kernel
theorem q_m130 : q_OK 130 := q_cov (n := 1) (by decide +kernel) (lt_s lt_0 q_k130_0)
theorem q_k131_0 : q_chR 131 (100 * 0) 100 = true := by decide +kernel
theorem q_k131_1 : q_chR 131 (100 * 1) 100 = true := by decide +kernel
theorem q_m131 : q_OK 131 := q_cov (n := 2) (by decide +kernel) (lt_s (lt_s lt_0 q_k131_0) q_k131_1)
theorem q_k132_0 : q_chR 132 (100 * 0) 100 = true := by decide +kernel
theorem q_k132_1 : q_chR 132 (100 * 1) 100 = true := by decide +kernel
theorem q_m132 : q_OK 132 := q_cov (n := 2) (by decide +kernel) (lt_s (lt_s lt_0 q_k132_0) q_k132_1)
theorem q_k133_0 : q_chR 133 (100 * 0) 100 = true := by decide +kernel
theorem q_m133 : q_OK 133 := q_cov (n := 1) (by decide +kernel) (lt_s lt_0 q_k133_0)
theorem q_k134_0 : q_chR 134 (100 * 0) 100 = true := by decide +kernel
theorem q_m134 : q_OK 134 := q_cov (n := 1) (by decide +kernel) (lt_s lt_0 q_k134_0)
theorem q_k135_0 : q_chR 135 (100 * 0) 100 = true := by decide +kernel
theorem q_m135 : q_OK 135 := q_cov (n := 1) (by decide +kernel) (lt_s lt_0 q_k135_0)
theorem q_k136_0 : q_chR 136 (100 * 0) 100 = true := by decide +kernel
theorem q_m136 : q_OK 136 := q_cov (n := 1) (by decide +kernel) (lt_s lt_0 q_k136_0)
theorem q_k137_0 : q_chR 137 (100 * 0) 100 = true := by decide +kernel
theorem q_m137 : q_OK 137 := q_cov (n := 1) (by decide +kernel) (lt_s lt_0 q_k137_0)
theorem q_k138_0 : q_chR 138 (100 * 0) 100 = true := by decide +kernel
theorem q_k138_1 : q_chR 138 (100 * 1) 100 = true := by decide +kernel
theorem q_m138 : q_OK 138 := q_cov (n := 2) (by decide +kernel) (lt_s (lt_s lt_0 q_k138_0) q_k138_1)
theorem q_k139_0 : q_chR 139 (100 * 0) 100 = true := by decide +kernel
theorem q_k139_1 : q_chR 139 (100 * 1) 100 = true := by decide +kernel
theorem q_m139 : q_OK 139 := q_cov (n := 2) (by decide +kernel) (lt_s (lt_s lt_0 q_k139_0) q_k139_1)
theorem q_k140_0 : q_chR 140 (100 * 0) 100 = true := by decide +kernel
theorem q_m140 : q_OK 140 := q_cov (n := 1) (by decide +kernel) (lt_s lt_0 q_k140_0)
theorem q_k141_0 : q_chR 141 (100 * 0) 100 = true := by decide +kernel
theorem q_m141 : q_OK 141 := q_cov (n := 1) (by decide +kernel) (lt_s lt_0 q_k141_0)
theorem q_k142_0 : q_chR 142 (100 * 0) 100 = true := by decide +kernel
theorem q_m142 : q_OK 142 := q_cov (n := 1) (by decide +kernel) (lt_s lt_0 q_k142_0)
theorem q_k143_0 : q_chR 143 (100 * 0) 100 = true := by decide +kernel
theorem q_k143_1 : q_chR 143 (100 * 1) 100 = true := by decide +kernel
theorem q_m143 : q_OK 143 := q_cov (n := 2) (by decide +kernel) (lt_s (lt_s lt_0 q_k143_0) q_k143_1)
theorem q_k144_0 : q_chR 144 (100 * 0) 100 = true := by decide +kernel
theorem q_m144 : q_OK 144 := q_cov (n := 1) (by decide +kernel) (lt_s lt_0 q_k144_0)
theorem q_k145_0 : q_chR 145 (100 * 0) 100 = true := by decide +kernel
theorem q_m145 : q_OK 145 := q_cov (n := 1) (by decide +kernel) (lt_s lt_0 q_k145_0)
theorem q_k146_0 : q_chR 146 (100 * 0) 100 = true := by decide +kernel
theorem q_m146 : q_OK 146 := q_cov (n := 1) (by decide +kernel) (lt_s lt_0 q_k146_0)
theorem q_k147_0 : q_chR 147 (100 * 0) 100 = true := by decide +kernel
theorem q_m147 : q_OK 147 := q_cov (n := 1) (by decide +kernel) (lt_s lt_0 q_k147_0)
theorem q_k148_0 : q_chR 148 (100 * 0) 100 = true := by decide +kernel
theorem q_k148_1 : q_chR 148 (100 * 1) 100 = true := by decide +kernel
theorem q_m148 : q_OK 148 := q_cov (n := 2) (by decide +kernel) (lt_s (lt_s lt_0 q_k148_0) q_k148_1)
theorem q_k149_0 : q_chR 149 (100 * 0) 100 = true := by decide +kernel
theorem q_k149_1 : q_chR 149 (100 * 1) 100 = true := by decide +kernel
theorem q_k149_2 : q_chR 149 (100 * 2) 100 = true := by decide +kernel
theorem q_k149_3 : q_chR 149 (100 * 3) 100 = true := by decide +kernel
theorem q_m149 : q_OK 149 := q_cov (n := 4) (by decide +kernel) (lt_s (lt_s (lt_s (lt_s lt_0 q_k149_0) q_k149_1) q_k149_2) q_k149_3)
theorem q_k150_0 : q_chR 150 (100 * 0) 100 = true := by decide +kernel
theorem q_k150_1 : q_chR 150 (100 * 1) 100 = true := by decide +kernel
theorem q_m150 : q_OK 150 := q_cov (n := 2) (by decide +kernel) (lt_s (lt_s lt_0 q_k150_0) q_k150_1)
theorem q_k151_0 : q_chR 151 (100 * 0) 100 = true := by decide +kernel
theorem q_m151 : q_OK 151 := q_cov (n := 1) (by decide +kernel) (lt_s lt_0 q_k151_0)
theorem q_k152_0 : q_chR 152 (100 * 0) 100 = true := by decide +kernel
theorem q_m152 : q_OK 152 := q_cov (n := 1) (by decide +kernel) (lt_s lt_0 q_k152_0)
theorem q_k153_0 : q_chR 153 (100 * 0) 100 = true := by decide +kernel
theorem q_m153 : q_OK 153 := q_cov (n := 1) (by decide +kernel) (lt_s lt_0 q_k153_0)
theorem q_k154_0 : q_chR 154 (100 * 0) 100 = true := by decide +kernel
theorem q_m154 : q_OK 154 := q_cov (n := 1) (by decide +kernel) (lt_s lt_0 q_k154_0)
theorem q_k155_0 : q_chR 155 (100 * 0) 100 = true := by decide +kernel
theorem q_m155 : q_OK 155 := q_cov (n := 1) (by decide +kernel) (lt_s lt_0 q_k155_0)
theorem q_k156_0 : q_chR 156 (100 * 0) 100 = true := by decide +kernel
theorem q_m156 : q_OK 156 := q_cov (n := 1) (by decide +kernel) (lt_s lt_0 q_k156_0)
theorem q_k157_0 : q_chR 157 (100 * 0) 100 = true := by decide +kernel
theorem q_m157 : q_OK 157 := q_cov (n := 1) (by decide +kernel) (lt_s lt_0 q_k157_0)
theorem q_k158_0 : q_chR 158 (100 * 0) 100 = true := by decide +kernel
theorem q_m158 : q_OK 158 := q_cov (n := 1) (by decide +kernel) (lt_s lt_0 q_k158_0)
theorem q_k159_0 : q_chR 159 (100 * 0) 100 = true := by decide +kernel
theorem q_m159 : q_OK 159 := q_cov (n := 1) (by decide +kernel) (lt_s lt_0 q_k159_0)
theorem q_k160_0 : q_chR 160 (100 * 0) 100 = true := by decide +kernel
theorem q_m160 : q_OK 160 := q_cov (n := 1) (by decide +kernel) (lt_s lt_0 q_k160_0)
theorem q_k161_0 : q_chR 161 (100 * 0) 100 = true := by decide +kernel
theorem q_m161 : q_OK 161 := q_cov (n := 1) (by decide +kernel) (lt_s lt_0 q_k161_0)
theorem q_k162_0 : q_chR 162 (100 * 0) 100 = true := by decide +kernel
theorem q_m162 : q_OK 162 := q_cov (n := 1) (by decide +kernel) (lt_s lt_0 q_k162_0)
theorem q_k163_0 : q_chR 163 (100 * 0) 100 = true := by decide +kernel
theorem q_k163_1 : q_chR 163 (100 * 1) 100 = true := by decide +kernel
theorem q_m163 : q_OK 163 := q_cov (n := 2) (by decide +kernel) (lt_s (lt_s lt_0 q_k163_0) q_k163_1)
theorem q_k164_0 : q_chR 164 (100 * 0) 100 = true := by decide +kernel
theorem q_m164 : q_OK 164 := q_cov (n := 1) (by decide +kernel) (lt_s lt_0 q_k164_0)
set_option maxRecDepth 100000 in
theorem q_cw_120 : lw_tbl[(q_mP 120).1]? = some (.code (q_mn 120) (q_cd 120) (q_mx 120) (q_rt 120)) := rfl
set_option maxRecDepth 100000 in
theorem q_cw_121 : lw_tbl[(q_mP 121).1]? = some (.code (q_mn 121) (q_cd 121) (q_mx 121) (q_rt 121)) := rfl
set_option maxRecDepth 100000 in
theorem q_cw_122 : lw_tbl[(q_mP 122).1]? = some (.code (q_mn 122) (q_cd 122) (q_mx 122) (q_rt 122)) := rfl
set_option maxRecDepth 100000 in
theorem q_cw_123 : lw_tbl[(q_mP 123).1]? = some (.code (q_mn 123) (q_cd 123) (q_mx 123) (q_rt 123)) := rfl
set_option maxRecDepth 100000 in
theorem q_cw_124 : lw_tbl[(q_mP 124).1]? = some (.code (q_mn 124) (q_cd 124) (q_mx 124) (q_rt 124)) := rfl
set_option maxRecDepth 100000 in
theorem q_cw_125 : lw_tbl[(q_mP 125).1]? = some (.code (q_mn 125) (q_cd 125) (q_mx 125) (q_rt 125)) := rfl
set_option maxRecDepth 100000 in
theorem q_cw_126 : lw_tbl[(q_mP 126).1]? = some (.code (q_mn 126) (q_cd 126) (q_mx 126) (q_rt 126)) := rfl
set_option maxRecDepth 100000 in
theorem q_cw_127 : lw_tbl[(q_mP 127).1]? = some (.code (q_mn 127) (q_cd 127) (q_mx 127) (q_rt 127)) := rfl
set_option maxRecDepth 100000 in
theorem q_cw_128 : lw_tbl[(q_mP 128).1]? = some (.code (q_mn 128) (q_cd 128) (q_mx 128) (q_rt 128)) := rfl
set_option maxRecDepth 100000 in
theorem q_cw_129 : lw_tbl[(q_mP 129).1]? = some (.code (q_mn 129) (q_cd 129) (q_mx 129) (q_rt 129)) := rfl
set_option maxRecDepth 100000 in
theorem q_cw_130 : lw_tbl[(q_mP 130).1]? = some (.code (q_mn 130) (q_cd 130) (q_mx 130) (q_rt 130)) := rfl
set_option maxRecDepth 100000 in
theorem q_cw_131 : lw_tbl[(q_mP 131).1]? = some (.code (q_mn 131) (q_cd 131) (q_mx 131) (q_rt 131)) := rfl
set_option maxRecDepth 100000 in
theorem q_cw_132 : lw_tbl[(q_mP 132).1]? = some (.code (q_mn 132) (q_cd 132) (q_mx 132) (q_rt 132)) := rfl
set_option maxRecDepth 100000 in
theorem q_cw_133 : lw_tbl[(q_mP 133).1]? = some (.code (q_mn 133) (q_cd 133) (q_mx 133) (q_rt 133)) := rfl
set_option maxRecDepth 100000 in
theorem q_cw_134 : lw_tbl[(q_mP 134).1]? = some (.code (q_mn 134) (q_cd 134) (q_mx 134) (q_rt 134)) := rfl
set_option maxRecDepth 100000 in
theorem q_cw_135 : lw_tbl[(q_mP 135).1]? = some (.code (q_mn 135) (q_cd 135) (q_mx 135) (q_rt 135)) := rfl
set_option maxRecDepth 100000 in
theorem q_cw_136 : lw_tbl[(q_mP 136).1]? = some (.code (q_mn 136) (q_cd 136) (q_mx 136) (q_rt 136)) := rfl
set_option maxRecDepth 100000 in
theorem q_cw_137 : lw_tbl[(q_mP 137).1]? = some (.code (q_mn 137) (q_cd 137) (q_mx 137) (q_rt 137)) := rfl
set_option maxRecDepth 100000 in
theorem q_cw_138 : lw_tbl[(q_mP 138).1]? = some (.code (q_mn 138) (q_cd 138) (q_mx 138) (q_rt 138)) := rfl
set_option maxRecDepth 100000 in
theorem q_cw_139 : lw_tbl[(q_mP 139).1]? = some (.code (q_mn 139) (q_cd 139) (q_mx 139) (q_rt 139)) := rfl
set_option maxRecDepth 100000 in
theorem q_cw_140 : lw_tbl[(q_mP 140).1]? = some (.code (q_mn 140) (q_cd 140) (q_mx 140) (q_rt 140)) := rfl
set_option maxRecDepth 100000 in
theorem q_cw_141 : lw_tbl[(q_mP 141).1]? = some (.code (q_mn 141) (q_cd 141) (q_mx 141) (q_rt 141)) := rfl
set_option maxRecDepth 100000 in
theorem q_cw_142 : lw_tbl[(q_mP 142).1]? = some (.code (q_mn 142) (q_cd 142) (q_mx 142) (q_rt 142)) := rfl
set_option maxRecDepth 100000 in
theorem q_cw_143 : lw_tbl[(q_mP 143).1]? = some (.code (q_mn 143) (q_cd 143) (q_mx 143) (q_rt 143)) := rfl
set_option maxRecDepth 100000 in
theorem q_cw_144 : lw_tbl[(q_mP 144).1]? = some (.code (q_mn 144) (q_cd 144) (q_mx 144) (q_rt 144)) := rfl
set_option maxRecDepth 100000 in
theorem q_cw_145 : lw_tbl[(q_mP 145).1]? = some (.code (q_mn 145) (q_cd 145) (q_mx 145) (q_rt 145)) := rfl
set_option maxRecDepth 100000 in
theorem q_cw_146 : lw_tbl[(q_mP 146).1]? = some (.code (q_mn 146) (q_cd 146) (q_mx 146) (q_rt 146)) := rfl
set_option maxRecDepth 100000 in
theorem q_cw_147 : lw_tbl[(q_mP 147).1]? = some (.code (q_mn 147) (q_cd 147) (q_mx 147) (q_rt 147)) := rfl
set_option maxRecDepth 100000 in
theorem q_cw_148 : lw_tbl[(q_mP 148).1]? = some (.code (q_mn 148) (q_cd 148) (q_mx 148) (q_rt 148)) := rfl
set_option maxRecDepth 100000 in
theorem q_cw_149 : lw_tbl[(q_mP 149).1]? = some (.code (q_mn 149) (q_cd 149) (q_mx 149) (q_rt 149)) := rfl
set_option maxRecDepth 100000 in
theorem q_cw_150 : lw_tbl[(q_mP 150).1]? = some (.code (q_mn 150) (q_cd 150) (q_mx 150) (q_rt 150)) := rfl
set_option maxRecDepth 100000 in
theorem q_cw_151 : lw_tbl[(q_mP 151).1]? = some (.code (q_mn 151) (q_cd 151) (q_mx 151) (q_rt 151)) := rfl
set_option maxRecDepth 100000 in
theorem q_cw_152 : lw_tbl[(q_mP 152).1]? = some (.code (q_mn 152) (q_cd 152) (q_mx 152) (q_rt 152)) := rfl
set_option maxRecDepth 100000 in
theorem q_cw_153 : lw_tbl[(q_mP 153).1]? = some (.code (q_mn 153) (q_cd 153) (q_mx 153) (q_rt 153)) := rfl
set_option maxRecDepth 100000 in
theorem q_cw_154 : lw_tbl[(q_mP 154).1]? = some (.code (q_mn 154) (q_cd 154) (q_mx 154) (q_rt 154)) := rfl
set_option maxRecDepth 100000 in
theorem q_cw_155 : lw_tbl[(q_mP 155).1]? = some (.code (q_mn 155) (q_cd 155) (q_mx 155) (q_rt 155)) := rfl
set_option maxRecDepth 100000 in
theorem q_cw_156 : lw_tbl[(q_mP 156).1]? = some (.code (q_mn 156) (q_cd 156) (q_mx 156) (q_rt 156)) := rfl
set_option maxRecDepth 100000 in
theorem q_cw_157 : lw_tbl[(q_mP 157).1]? = some (.code (q_mn 157) (q_cd 157) (q_mx 157) (q_rt 157)) := rfl
set_option maxRecDepth 100000 in
theorem q_cw_158 : lw_tbl[(q_mP 158).1]? = some (.code (q_mn 158) (q_cd 158) (q_mx 158) (q_rt 158)) := rfl
set_option maxRecDepth 100000 in
theorem q_cw_159 : lw_tbl[(q_mP 159).1]? = some (.code (q_mn 159) (q_cd 159) (q_mx 159) (q_rt 159)) := rfl
set_option maxRecDepth 100000 in
theorem q_cw_160 : lw_tbl[(q_mP 160).1]? = some (.code (q_mn 160) (q_cd 160) (q_mx 160) (q_rt 160)) := rfl
set_option maxRecDepth 100000 in
theorem q_cw_161 : lw_tbl[(q_mP 161).1]? = some (.code (q_mn 161) (q_cd 161) (q_mx 161) (q_rt 161)) := rfl
set_option maxRecDepth 100000 in
theorem q_cw_162 : lw_tbl[(q_mP 162).1]? = some (.code (q_mn 162) (q_cd 162) (q_mx 162) (q_rt 162)) := rfl
set_option maxRecDepth 100000 in
theorem q_cw_163 : lw_tbl[(q_mP 163).1]? = some (.code (q_mn 163) (q_cd 163) (q_mx 163) (q_rt 163)) := rfl
set_option maxRecDepth 100000 in
theorem q_cw_164 : lw_tbl[(q_mP 164).1]? = some (.code (q_mn 164) (q_cd 164) (q_mx 164) (q_rt 164)) := rfl
