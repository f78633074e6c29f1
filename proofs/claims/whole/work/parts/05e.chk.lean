theorem q_k165_0 : q_chR 165 (100 * 0) 100 = true := by decide +kernel
theorem q_k165_1 : q_chR 165 (100 * 1) 100 = true := by decide +kernel
theorem q_m165 : q_OK 165 := q_cov (n := 2) (by decide +kernel) (lt_s (lt_s lt_0 q_k165_0) q_k165_1)
theorem q_k166_0 : q_chR 166 (100 * 0) 100 = true := by decide +kernel
theorem q_m166 : q_OK 166 := q_cov (n := 1) (by decide +kernel) (lt_s lt_0 q_k166_0)
theorem q_k167_0 : q_chR 167 (100 * 0) 100 = true := by decide +kernel
theorem q_m167 : q_OK 167 := q_cov (n := 1) (by decide +kernel) (lt_s lt_0 q_k167_0)
theorem q_k168_0 : q_chR 168 (100 * 0) 100 = true := by decide +kernel
theorem q_m168 : q_OK 168 := q_cov (n := 1) (by decide +kernel) (lt_s lt_0 q_k168_0)
theorem q_k169_0 : q_chR 169 (100 * 0) 100 = true := by decide +kernel
theorem q_m169 : q_OK 169 := q_cov (n := 1) (by decide +kernel) (lt_s lt_0 q_k169_0)
theorem q_k170_0 : q_chR 170 (100 * 0) 100 = true := by decide +kernel
theorem q_m170 : q_OK 170 := q_cov (n := 1) (by decide +kernel) (lt_s lt_0 q_k170_0)
theorem q_k171_0 : q_chR 171 (100 * 0) 100 = true := by decide +kernel
theorem q_k171_1 : q_chR 171 (100 * 1) 100 = true := by decide +kernel
theorem q_k171_2 : q_chR 171 (100 * 2) 100 = true := by decide +kernel
theorem q_k171_3 : q_chR 171 (100 * 3) 100 = true := by decide +kernel
theorem q_m171 : q_OK 171 := q_cov (n := 4) (by decide +kernel) (lt_s (lt_s (lt_s (lt_s lt_0 q_k171_0) q_k171_1) q_k171_2) q_k171_3)
theorem q_k172_0 : q_chR 172 (100 * 0) 100 = true := by decide +kernel
theorem q_m172 : q_OK 172 := q_cov (n := 1) (by decide +kernel) (lt_s lt_0 q_k172_0)
theorem q_k173_0 : q_chR 173 (100 * 0) 100 = true := by decide +kernel
theorem q_m173 : q_OK 173 := q_cov (n := 1) (by decide +kernel) (lt_s lt_0 q_k173_0)
theorem q_k174_0 : q_chR 174 (100 * 0) 100 = true := by decide +kernel
theorem q_k174_1 : q_chR 174 (100 * 1) 100 = true := by decide +kernel
theorem q_m174 : q_OK 174 := q_cov (n := 2) (by decide +kernel) (lt_s (lt_s lt_0 q_k174_0) q_k174_1)
theorem q_k175_0 : q_chR 175 (100 * 0) 100 = true := by decide +kernel
theorem q_k175_1 : q_chR 175 (100 * 1) 100 = true := by decide +kernel
theorem q_m175 : q_OK 175 := q_cov (n := 2) (by decide +kernel) (lt_s (lt_s lt_0 q_k175_0) q_k175_1)
theorem q_k176_0 : q_chR 176 (100 * 0) 100 = true := by decide +kernel
theorem q_m176 : q_OK 176 := q_cov (n := 1) (by decide +kernel) (lt_s lt_0 q_k176_0)
theorem q_k177_0 : q_chR 177 (100 * 0) 100 = true := by decide +kernel
theorem q_k177_1 : q_chR 177 (100 * 1) 100 = true := by decide +kernel
theorem q_m177 : q_OK 177 := q_cov (n := 2) (by decide +kernel) (lt_s (lt_s lt_0 q_k177_0) q_k177_1)
theorem q_k178_0 : q_chR 178 (100 * 0) 100 = true := by decide +kernel
theorem q_m178 : q_OK 178 := q_cov (n := 1) (by decide +kernel) (lt_s lt_0 q_k178_0)
theorem q_k179_0 : q_chR 179 (100 * 0) 100 = true := by decide +kernel
theorem q_m179 : q_OK 179 := q_cov (n := 1) (by decide +kernel) (lt_s lt_0 q_k179_0)
theorem q_k180_0 : q_chR 180 (100 * 0) 100 = true := by decide +kernel
theorem q_k180_1 : q_chR 180 (100 * 1) 100 = true := by decide +kernel
theorem q_m180 : q_OK 180 := q_cov (n := 2) (by decide +kernel) (lt_s (lt_s lt_0 q_k180_0) q_k180_1)
theorem q_k181_0 : q_chR 181 (100 * 0) 100 = true := by decide +kernel
theorem q_m181 : q_OK 181 := q_cov (n := 1) (by decide +kernel) (lt_s lt_0 q_k181_0)
theorem q_k182_0 : q_chR 182 (100 * 0) 100 = true := by decide +kernel
theorem q_k182_1 : q_chR 182 (100 * 1) 100 = true := by decide +kernel
theorem q_m182 : q_OK 182 := q_cov (n := 2) (by decide +kernel) (lt_s (lt_s lt_0 q_k182_0) q_k182_1)
theorem q_k183_0 : q_chR 183 (100 * 0) 100 = true := by decide +kernel
theorem q_m183 : q_OK 183 := q_cov (n := 1) (by decide +kernel) (lt_s lt_0 q_k183_0)
theorem q_k184_0 : q_chR 184 (100 * 0) 100 = true := by decide +kernel
theorem q_k184_1 : q_chR 184 (100 * 1) 100 = true := by decide +kernel
theorem q_m184 : q_OK 184 := q_cov (n := 2) (by decide +kernel) (lt_s (lt_s lt_0 q_k184_0) q_k184_1)
theorem q_k185_0 : q_chR 185 (100 * 0) 100 = true := by decide +kernel
theorem q_k185_1 : q_chR 185 (100 * 1) 100 = true := by decide +kernel
theorem q_m185 : q_OK 185 := q_cov (n := 2) (by decide +kernel) (lt_s (lt_s lt_0 q_k185_0) q_k185_1)
theorem q_k186_0 : q_chR 186 (100 * 0) 100 = true := by decide +kernel
theorem q_m186 : q_OK 186 := q_cov (n := 1) (by decide +kernel) (lt_s lt_0 q_k186_0)
theorem q_k187_0 : q_chR 187 (100 * 0) 100 = true := by decide +kernel
theorem q_m187 : q_OK 187 := q_cov (n := 1) (by decide +kernel) (lt_s lt_0 q_k187_0)
theorem q_k188_0 : q_chR 188 (100 * 0) 100 = true := by decide +kernel
theorem q_m188 : q_OK 188 := q_cov (n := 1) (by decide +kernel) (lt_s lt_0 q_k188_0)
theorem q_k189_0 : q_chR 189 (100 * 0) 100 = true := by decide +kernel
theorem q_m189 : q_OK 189 := q_cov (n := 1) (by decide +kernel) (lt_s lt_0 q_k189_0)
theorem q_k190_0 : q_chR 190 (100 * 0) 100 = true := by decide +kernel
theorem q_m190 : q_OK 190 := q_cov (n := 1) (by decide +kernel) (lt_s lt_0 q_k190_0)
theorem q_k191_0 : q_chR 191 (100 * 0) 100 = true := by decide +kernel
theorem q_m191 : q_OK 191 := q_cov (n := 1) (by decide +kernel) (lt_s lt_0 q_k191_0)
theorem q_k192_0 : q_chR 192 (100 * 0) 100 = true := by decide +kernel
theorem q_k192_1 : q_chR 192 (100 * 1) 100 = true := by decide +kernel
theorem q_m192 : q_OK 192 := q_cov (n := 2) (by decide +kernel) (lt_s (lt_s lt_0 q_k192_0) q_k192_1)
theorem q_k193_0 : q_chR 193 (100 * 0) 100 = true := by decide +kernel
theorem q_m193 : q_OK 193 := q_cov (n := 1) (by decide +kernel) (lt_s lt_0 q_k193_0)
theorem q_k194_0 : q_chR 194 (100 * 0) 100 = true := by decide +kernel
theorem q_m194 : q_OK 194 := q_cov (n := 1) (by decide +kernel) (lt_s lt_0 q_k194_0)
theorem q_k195_0 : q_chR 195 (100 * 0) 100 = true := by decide +kernel
theorem q_k195_1 : q_chR 195 (100 * 1) 100 = true := by decide +kernel
theorem q_m195 : q_OK 195 := q_cov (n := 2) (by decide +kernel) (lt_s (lt_s lt_0 q_k195_0) q_k195_1)
theorem q_k196_0 : q_chR 196 (100 * 0) 100 = true := by decide +kernel
theorem q_m196 : q_OK 196 := q_cov (n := 1) (by decide +kernel) (lt_s lt_0 q_k196_0)
theorem q_k197_0 : q_chR 197 (100 * 0) 100 = true := by decide +kernel
theorem q_k197_1 : q_chR 197 (100 * 1) 100 = true := by decide +kernel
theorem q_m197 : q_OK 197 := q_cov (n := 2) (by decide +kernel) (lt_s (lt_s lt_0 q_k197_0) q_k197_1)
theorem q_k198_0 : q_chR 198 (100 * 0) 100 = true := by decide +kernel
theorem q_m198 : q_OK 198 := q_cov (n := 1) (by decide +kernel) (lt_s lt_0 q_k198_0)
theorem q_k199_0 : q_chR 199 (100 * 0) 100 = true := by decide +kernel
theorem q_k199_1 : q_chR 199 (100 * 1) 100 = true := by decide +kernel
theorem q_m199 : q_OK 199 := q_cov (n := 2) (by decide +kernel) (lt_s (lt_s lt_0 q_k199_0) q_k199_1)
theorem q_k200_0 : q_chR 200 (100 * 0) 100 = true := by decide +kernel
theorem q_k200_1 : q_chR 200 (100 * 1) 100 = true := by decide +kernel
theorem q_m200 : q_OK 200 := q_cov (n := 2) (by decide +kernel) (lt_s (lt_s lt_0 q_k200_0) q_k200_1)
theorem q_k201_0 : q_chR 201 (100 * 0) 100 = true := by decide +kernel
theorem q_m201 : q_OK 201 := q_cov (n := 1) (by decide +kernel) (lt_s lt_0 q_k201_0)
theorem q_k202_0 : q_chR 202 (100 * 0) 100 = true := by decide +kernel
theorem q_m202 : q_OK 202 := q_cov (n := 1) (by decide +kernel) (lt_s lt_0 q_k202_0)
theorem q_k203_0 : q_chR 203 (100 * 0) 100 = true := by decide +kernel
theorem q_m203 : q_OK 203 := q_cov (n := 1) (by decide +kernel) (lt_s lt_0 q_k203_0)
theorem q_k204_0 : q_chR 204 (100 * 0) 100 = true := by decide +kernel
theorem q_m204 : q_OK 204 := q_cov (n := 1) (by decide +kernel) (lt_s lt_0 q_k204_0)
theorem q_k205_0 : q_chR 205 (100 * 0) 100 = true := by decide +kernel
theorem q_m205 : q_OK 205 := q_cov (n := 1) (by decide +kernel) (lt_s lt_0 q_k205_0)
theorem q_k206_0 : q_chR 206 (100 * 0) 100 = true := by decide +kernel
theorem q_m206 : q_OK 206 := q_cov (n := 1) (by decide +kernel) (lt_s lt_0 q_k206_0)
set_option maxRecDepth 100000 in
theorem q_cw_165 : lw_tbl[(q_mP 165).1]? = some (.code (q_mn 165) (q_cd 165) (q_mx 165) (q_rt 165)) := rfl
set_option maxRecDepth 100000 in
theorem q_cw_166 : lw_tbl[(q_mP 166).1]? = some (.code (q_mn 166) (q_cd 166) (q_mx 166) (q_rt 166)) := rfl
set_option maxRecDepth 100000 in
theorem q_cw_167 : lw_tbl[(q_mP 167).1]? = some (.code (q_mn 167) (q_cd 167) (q_mx 167) (q_rt 167)) := rfl
set_option maxRecDepth 100000 in
theorem q_cw_168 : lw_tbl[(q_mP 168).1]? = some (.code (q_mn 168) (q_cd 168) (q_mx 168) (q_rt 168)) := rfl
set_option maxRecDepth 100000 in
theorem q_cw_169 : lw_tbl[(q_mP 169).1]? = some (.code (q_mn 169) (q_cd 169) (q_mx 169) (q_rt 169)) := rfl
set_option maxRecDepth 100000 in
theorem q_cw_170 : lw_tbl[(q_mP 170).1]? = some (.code (q_mn 170) (q_cd 170) (q_mx 170) (q_rt 170)) := rfl
set_option maxRecDepth 100000 in
theorem q_cw_171 : lw_tbl[(q_mP 171).1]? = some (.code (q_mn 171) (q_cd 171) (q_mx 171) (q_rt 171)) := rfl
set_option maxRecDepth 100000 in
theorem q_cw_172 : lw_tbl[(q_mP 172).1]? = some (.code (q_mn 172) (q_cd 172) (q_mx 172) (q_rt 172)) := rfl
set_option maxRecDepth 100000 in
theorem q_cw_173 : lw_tbl[(q_mP 173).1]? = some (.code (q_mn 173) (q_cd 173) (q_mx 173) (q_rt 173)) := rfl
set_option maxRecDepth 100000 in
theorem q_cw_174 : lw_tbl[(q_mP 174).1]? = some (.code (q_mn 174) (q_cd 174) (q_mx 174) (q_rt 174)) := rfl
set_option maxRecDepth 100000 in
theorem q_cw_175 : lw_tbl[(q_mP 175).1]? = some (.code (q_mn 175) (q_cd 175) (q_mx 175) (q_rt 175)) := rfl
set_option maxRecDepth 100000 in
theorem q_cw_176 : lw_tbl[(q_mP 176).1]? = some (.code (q_mn 176) (q_cd 176) (q_mx 176) (q_rt 176)) := rfl
set_option maxRecDepth 100000 in
theorem q_cw_177 : lw_tbl[(q_mP 177).1]? = some (.code (q_mn 177) (q_cd 177) (q_mx 177) (q_rt 177)) := rfl
set_option maxRecDepth 100000 in
theorem q_cw_178 : lw_tbl[(q_mP 178).1]? = some (.code (q_mn 178) (q_cd 178) (q_mx 178) (q_rt 178)) := rfl
set_option maxRecDepth 100000 in
theorem q_cw_179 : lw_tbl[(q_mP 179).1]? = some (.code (q_mn 179) (q_cd 179) (q_mx 179) (q_rt 179)) := rfl
set_option maxRecDepth 100000 in
theorem q_cw_180 : lw_tbl[(q_mP 180).1]? = some (.code (q_mn 180) (q_cd 180) (q_mx 180) (q_rt 180)) := rfl
set_option maxRecDepth 100000 in
theorem q_cw_181 : lw_tbl[(q_mP 181).1]? = some (.code (q_mn 181) (q_cd 181) (q_mx 181) (q_rt 181)) := rfl
set_option maxRecDepth 100000 in
theorem q_cw_182 : lw_tbl[(q_mP 182).1]? = some (.code (q_mn 182) (q_cd 182) (q_mx 182) (q_rt 182)) := rfl
set_option maxRecDepth 100000 in
theorem q_cw_183 : lw_tbl[(q_mP 183).1]? = some (.code (q_mn 183) (q_cd 183) (q_mx 183) (q_rt 183)) := rfl
set_option maxRecDepth 100000 in
theorem q_cw_184 : lw_tbl[(q_mP 184).1]? = some (.code (q_mn 184) (q_cd 184) (q_mx 184) (q_rt 184)) := rfl
set_option maxRecDepth 100000 in
theorem q_cw_185 : lw_tbl[(q_mP 185).1]? = some (.code (q_mn 185) (q_cd 185) (q_mx 185) (q_rt 185)) := rfl
set_option maxRecDepth 100000 in
theorem q_cw_186 : lw_tbl[(q_mP 186).1]? = some (.code (q_mn 186) (q_cd 186) (q_mx 186) (q_rt 186)) := rfl
set_option maxRecDepth 100000 in
theorem q_cw_187 : lw_tbl[(q_mP 187).1]? = some (.code (q_mn 187) (q_cd 187) (q_mx 187) (q_rt 187)) := rfl
set_option maxRecDepth 100000 in
theorem q_cw_188 : lw_tbl[(q_mP 188).1]? = some (.code (q_mn 188) (q_cd 188) (q_mx 188) (q_rt 188)) := rfl
set_option maxRecDepth 100000 in
theorem q_cw_189 : lw_tbl[(q_mP 189).1]? = some (.code (q_mn 189) (q_cd 189) (q_mx 189) (q_rt 189)) := rfl
set_option maxRecDepth 100000 in
theorem q_cw_190 : lw_tbl[(q_mP 190).1]? = some (.code (q_mn 190) (q_cd 190) (q_mx 190) (q_rt 190)) := rfl
set_option maxRecDepth 100000 in
theorem q_cw_191 : lw_tbl[(q_mP 191).1]? = some (.code (q_mn 191) (q_cd 191) (q_mx 191) (q_rt 191)) := rfl
set_option maxRecDepth 100000 in
theorem q_cw_192 : lw_tbl[(q_mP 192).1]? = some (.code (q_mn 192) (q_cd 192) (q_mx 192) (q_rt 192)) := rfl
set_option maxRecDepth 100000 in
theorem q_cw_193 : lw_tbl[(q_mP 193).1]? = some (.code (q_mn 193) (q_cd 193) (q_mx 193) (q_rt 193)) := rfl
set_option maxRecDepth 100000 in
theorem q_cw_194 : lw_tbl[(q_mP 194).1]? = some (.code (q_mn 194) (q_cd 194) (q_mx 194) (q_rt 194)) := rfl
set_option maxRecDepth 100000 in
theorem q_cw_195 : lw_tbl[(q_mP 195).1]? = some (.code (q_mn 195) (q_cd 195) (q_mx 195) (q_rt 195)) := rfl
set_option maxRecDepth 100000 in
theorem q_cw_196 : lw_tbl[(q_mP 196).1]? = some (.code (q_mn 196) (q_cd 196) (q_mx 196) (q_rt 196)) := rfl
set_option maxRecDepth 100000 in
theorem q_cw_197 : lw_tbl[(q_mP 197).1]? = some (.code (q_mn 197) (q_cd 197) (q_mx 197) (q_rt 197)) := rfl
set_option maxRecDepth 100000 in
theorem q_cw_198 : lw_tbl[(q_mP 198).1]? = some (.code (q_mn 198) (q_cd 198) (q_mx 198) (q_rt 198)) := rfl
set_option maxRecDepth 100000 in
theorem q_cw_199 : lw_tbl[(q_mP 199).1]? = some (.code (q_mn 199) (q_cd 199) (q_mx 199) (q_rt 199)) := rfl
set_option maxRecDepth 100000 in
theorem q_cw_200 : lw_tbl[(q_mP 200).1]? = some (.code (q_mn 200) (q_cd 200) (q_mx 200) (q_rt 200)) := rfl
set_option maxRecDepth 100000 in
theorem q_cw_201 : lw_tbl[(q_mP 201).1]? = some (.code (q_mn 201) (q_cd 201) (q_mx 201) (q_rt 201)) := rfl
set_option maxRecDepth 100000 in
theorem q_cw_202 : lw_tbl[(q_mP 202).1]? = some (.code (q_mn 202) (q_cd 202) (q_mx 202) (q_rt 202)) := rfl
set_option maxRecDepth 100000 in
theorem q_cw_203 : lw_tbl[(q_mP 203).1]? = some (.code (q_mn 203) (q_cd 203) (q_mx 203) (q_rt 203)) := rfl
set_option maxRecDepth 100000 in
theorem q_cw_204 : lw_tbl[(q_mP 204).1]? = some (.code (q_mn 204) (q_cd 204) (q_mx 204) (q_rt 204)) := rfl
set_option maxRecDepth 100000 in
theorem q_cw_205 : lw_tbl[(q_mP 205).1]? = some (.code (q_mn 205) (q_cd 205) (q_mx 205) (q_rt 205)) := rfl
set_option maxRecDepth 100000 in
theorem q_cw_206 : lw_tbl[(q_mP 206).1]? = some (.code (q_mn 206) (q_cd 206) (q_mx 206) (q_rt 206)) := rfl
