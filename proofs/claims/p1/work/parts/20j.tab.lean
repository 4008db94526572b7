/-! TABLES, by program -/
section SN
theorem hq_244 : (e_ml[244]?).map (·.2.1) = some code := rfl
theorem ho_244 : (e_ml[244]?).map (·.1.cls) = some "PlateroomprinterLaw" := rfl
theorem hr_244 : (e_ml[244]?).map (·.2.2.2) = some (some .boolean) := rfl
noncomputable def n_244_2242 : e_Y := u_tab (o_ret e_okZ)
theorem t_244_2242 : e_Sn 244 2242 (e_un n_244_2242) := u_tabT (s_zret hq_244 hr_244 (by decide +kernel) : e_Sn 244 2242 (o_ret e_okZ))
noncomputable def n_244_2241 : e_Y := u_push (.inl 2147483649) n_244_2242
theorem t_244_2241 : e_Sn 244 2241 (e_un n_244_2241) := u_pushT (s_iconst (n := (1)) hq_244 (by decide +kernel) rfl ⟨by decide +kernel, by decide +kernel⟩ : e_Sn 244 2241 (o_push (.inl 2147483649) 2242)) t_244_2242
noncomputable def n_244_2238 : e_Y := (u_at 23)
theorem t_244_2238 : e_Sn 244 2238 (e_un n_244_2238) := u_gotoT (s_goto (off := (-2215)) hq_244 (by decide +kernel) rfl : e_Sn 244 2238 (o_goto 23)) u_atT
noncomputable def n_244_2235 : e_Y := u_inc f_l4 f_s4 7 n_244_2238
theorem t_244_2235 : e_Sn 244 2235 (e_un n_244_2235) := u_incT f_l4_eq (fun _ _ _ => f_s4_eq) (s_iinc (zz := (7)) hq_244 (by decide +kernel) rfl (by decide +kernel) ⟨by decide, by decide⟩ : e_Sn 244 2235 (o_iinc 4 7 2238)) t_244_2238
noncomputable def n_244_2230 : e_Y := u_if y_ne0 (u_old2 (o_ifeq 2235 2233) 2235 n_244_2235 (u_at 2233)) n_244_2235 (u_at 2233)
theorem t_244_2230 : e_Sn 244 2230 (e_un n_244_2230) := u_ifeqT rfl (s_ifeq (off := (5)) hq_244 (by decide +kernel) rfl rfl : e_Sn 244 2230 (o_ifeq 2235 2233)) t_244_2235 u_atT
noncomputable def n_244_2229 : e_Y := u_old (o_lcmp 2230) n_244_2230
theorem t_244_2229 : e_Sn 244 2229 (e_un n_244_2229) := u_oldT (s_lcmp hq_244 (by decide +kernel) rfl : e_Sn 244 2229 (o_lcmp 2230)) t_244_2230 e_cg_lcmp
noncomputable def n_244_2226 : e_Y := u_callV 12 144 7 26 1 n_144_0 n_244_2229
theorem t_244_2226 : e_Sn 244 2226 (e_un n_244_2226) := u_callVT rfl (s_callV (ci := 12) (C := er_12) (T := et_12) (N := 5) (index := 247) hq_244 ho_244 hy_144 hp_144 hc_144 hi_144 hd_144 (List.mem_of_getElem? (i := 3142) (by decide +kernel)) hs_144 (List.mem_of_getElem? (i := 3144) (by decide +kernel)) rfl (by decide +kernel) rfl : e_Sn 244 2226 (o_callV (e_s1 12 144 7) 1 2229)) t_144_0 t_244_2229
noncomputable def n_244_2225 : e_Y := u_ld f_okA f_l2 n_244_2226
theorem t_244_2225 : e_Sn 244 2225 (e_un n_244_2225) := u_ldAT f_l2_eq (s_aload (i := .aload_n 2) (len := 1) hq_244 (by decide +kernel) rfl (.inr ⟨2, rfl, rfl, rfl⟩) : e_Sn 244 2225 (o_load e_okR 2 2226)) t_244_2226
noncomputable def n_244_2222 : e_Y := u_callV 0 7 3 22 1 n_7_0 n_244_2225
theorem t_244_2222 : e_Sn 244 2222 (e_un n_244_2222) := u_callVT rfl (s_callV (ci := 0) (C := er_0) (T := et_0) (N := 17) (index := 243) hq_244 ho_244 hy_7 hp_7 hc_7 hi_7 hd_7 (List.mem_of_getElem? (i := 1440) (by decide +kernel)) hs_7 (List.mem_of_getElem? (i := 1442) (by decide +kernel)) rfl (by decide +kernel) rfl : e_Sn 244 2222 (o_callV (e_s1 0 7 3) 1 2225)) t_7_0 t_244_2225
noncomputable def n_244_2221 : e_Y := u_ld f_okA f_l1 n_244_2222
theorem t_244_2221 : e_Sn 244 2221 (e_un n_244_2221) := u_ldAT f_l1_eq (s_aload (i := .aload_n 1) (len := 1) hq_244 (by decide +kernel) rfl (.inr ⟨1, rfl, rfl, rfl⟩) : e_Sn 244 2221 (o_load e_okR 1 2222)) t_244_2222
noncomputable def n_244_2216 : e_Y := u_jmp y_ne (u_old2 (o_ceq 2235 2219) 2235 n_244_2235 (u_at 2219)) n_244_2235 (u_at 2219)
theorem t_244_2216 : e_Sn 244 2216 (e_un n_244_2216) := u_ceqT rfl (s_ceq (off := (19)) hq_244 (by decide +kernel) rfl rfl : e_Sn 244 2216 (o_ceq 2235 2219)) t_244_2235 u_atT
noncomputable def n_244_2213 : e_Y := u_callV 12 168 1 20 1 n_168_0 n_244_2216
theorem t_244_2213 : e_Sn 244 2213 (e_un n_244_2213) := u_callVT rfl (s_callV (ci := 12) (C := er_12) (T := et_12) (N := 5) (index := 242) hq_244 ho_244 hy_168 hp_168 hc_168 hi_168 hd_168 (List.mem_of_getElem? (i := 3138) (by decide +kernel)) hs_168 (List.mem_of_getElem? (i := 3140) (by decide +kernel)) rfl (by decide +kernel) rfl : e_Sn 244 2213 (o_callV (e_s1 12 168 1) 1 2216)) t_168_0 t_244_2216
noncomputable def n_244_2212 : e_Y := u_ld f_okA f_l2 n_244_2213
theorem t_244_2212 : e_Sn 244 2212 (e_un n_244_2212) := u_ldAT f_l2_eq (s_aload (i := .aload_n 2) (len := 1) hq_244 (by decide +kernel) rfl (.inr ⟨2, rfl, rfl, rfl⟩) : e_Sn 244 2212 (o_load e_okR 2 2213)) t_244_2213
noncomputable def n_244_2209 : e_Y := u_callV 0 29 2 21 1 n_29_0 n_244_2212
theorem t_244_2209 : e_Sn 244 2209 (e_un n_244_2209) := u_callVT rfl (s_callV (ci := 0) (C := er_0) (T := et_0) (N := 17) (index := 238) hq_244 ho_244 hy_29 hp_29 hc_29 hi_29 hd_29 (List.mem_of_getElem? (i := 1271) (by decide +kernel)) hs_29 (List.mem_of_getElem? (i := 1273) (by decide +kernel)) rfl (by decide +kernel) rfl : e_Sn 244 2209 (o_callV (e_s1 0 29 2) 1 2212)) t_29_0 t_244_2212
noncomputable def n_244_2208 : e_Y := u_ld f_okA f_l1 n_244_2209
theorem t_244_2208 : e_Sn 244 2208 (e_un n_244_2208) := u_ldAT f_l1_eq (s_aload (i := .aload_n 1) (len := 1) hq_244 (by decide +kernel) rfl (.inr ⟨1, rfl, rfl, rfl⟩) : e_Sn 244 2208 (o_load e_okR 1 2209)) t_244_2209
noncomputable def n_244_2205 : e_Y := n_244_2235
theorem t_244_2205 : e_Sn 244 2205 (e_un n_244_2205) := u_gotoT (s_goto (off := (30)) hq_244 (by decide +kernel) rfl : e_Sn 244 2205 (o_goto 2235)) t_244_2235
noncomputable def n_244_2200 : e_Y := u_if y_ne0 (u_old2 (o_ifeq 2205 2203) 2205 n_244_2205 (u_at 2203)) n_244_2205 (u_at 2203)
theorem t_244_2200 : e_Sn 244 2200 (e_un n_244_2200) := u_ifeqT rfl (s_ifeq (off := (5)) hq_244 (by decide +kernel) rfl rfl : e_Sn 244 2200 (o_ifeq 2205 2203)) t_244_2205 u_atT
noncomputable def n_244_2199 : e_Y := u_old (o_lcmp 2200) n_244_2200
theorem t_244_2199 : e_Sn 244 2199 (e_un n_244_2199) := u_oldT (s_lcmp hq_244 (by decide +kernel) rfl : e_Sn 244 2199 (o_lcmp 2200)) t_244_2200 e_cg_lcmp
noncomputable def n_244_2198 : e_Y := u_old (o_i2l 2199) n_244_2199
theorem t_244_2198 : e_Sn 244 2198 (e_un n_244_2198) := u_oldT (s_i2l hq_244 (by decide +kernel) rfl : e_Sn 244 2198 (o_i2l 2199)) t_244_2199 e_congr_i2l
noncomputable def n_244_2196 : e_Y := u_ld f_okI f_l6 n_244_2198
theorem t_244_2196 : e_Sn 244 2196 (e_un n_244_2196) := u_ldIT f_l6_eq (s_iload (i := .iload 6) (len := 2) hq_244 (by decide +kernel) rfl (.inl ⟨rfl, rfl⟩) : e_Sn 244 2196 (o_load e_okI 6 2198)) t_244_2198
noncomputable def n_244_2195 : e_Y := u_ald 2 (u_old (o_aldO 2 2196) n_244_2196) n_244_2196
theorem t_244_2195 : e_Sn 244 2195 (e_un n_244_2195) := u_aldOT (s_lald hq_244 (by decide +kernel) rfl : e_Sn 244 2195 (o_aldO 2 2196)) t_244_2196
noncomputable def n_244_2194 : e_Y := u_push (.inl 2147483648) n_244_2195
theorem t_244_2194 : e_Sn 244 2194 (e_un n_244_2194) := u_pushT (s_iconst (n := (0)) hq_244 (by decide +kernel) rfl ⟨by decide +kernel, by decide +kernel⟩ : e_Sn 244 2194 (o_push (.inl 2147483648) 2195)) t_244_2195
noncomputable def n_244_2193 : e_Y := u_ld f_okA f_l3 n_244_2194
theorem t_244_2193 : e_Sn 244 2193 (e_un n_244_2193) := u_ldAT f_l3_eq (s_aload (i := .aload_n 3) (len := 1) hq_244 (by decide +kernel) rfl (.inr ⟨3, rfl, rfl, rfl⟩) : e_Sn 244 2193 (o_load e_okR 3 2194)) t_244_2194
noncomputable def n_244_2190 : e_Y := u_if y_ne0 (u_old2 (o_ifeq 2193 2205) 2193 n_244_2193 n_244_2205) n_244_2193 n_244_2205
theorem t_244_2190 : e_Sn 244 2190 (e_un n_244_2190) := u_ifeqT rfl (s_ifne (off := (15)) hq_244 (by decide +kernel) rfl rfl : e_Sn 244 2190 (o_ifeq 2193 2205)) t_244_2193 t_244_2205
noncomputable def n_244_2188 : e_Y := u_ld f_okI f_l5 n_244_2190
theorem t_244_2188 : e_Sn 244 2188 (e_un n_244_2188) := u_ldIT f_l5_eq (s_iload (i := .iload 5) (len := 2) hq_244 (by decide +kernel) rfl (.inl ⟨rfl, rfl⟩) : e_Sn 244 2188 (o_load e_okI 5 2190)) t_244_2190
noncomputable def n_244_2183 : e_Y := u_jmp y_ne (u_old2 (o_ceq 2188 2186) 2188 n_244_2188 (u_at 2186)) n_244_2188 (u_at 2186)
theorem t_244_2183 : e_Sn 244 2183 (e_un n_244_2183) := u_ceqT rfl (s_ceq (off := (5)) hq_244 (by decide +kernel) rfl rfl : e_Sn 244 2183 (o_ceq 2188 2186)) t_244_2188 u_atT
noncomputable def n_244_2181 : e_Y := u_ld f_okI f_l5 n_244_2183
theorem t_244_2181 : e_Sn 244 2181 (e_un n_244_2181) := u_ldIT f_l5_eq (s_iload (i := .iload 5) (len := 2) hq_244 (by decide +kernel) rfl (.inl ⟨rfl, rfl⟩) : e_Sn 244 2181 (o_load e_okI 5 2183)) t_244_2183
noncomputable def n_244_2178 : e_Y := u_callV 12 199 1 20 1 n_199_0 n_244_2181
theorem t_244_2178 : e_Sn 244 2178 (e_un n_244_2178) := u_callVT rfl (s_callV (ci := 12) (C := er_12) (T := et_12) (N := 5) (index := 117) hq_244 ho_244 hy_199 hp_199 hc_199 hi_199 hd_199 (List.mem_of_getElem? (i := 1974) (by decide +kernel)) hs_199 (List.mem_of_getElem? (i := 1976) (by decide +kernel)) rfl (by decide +kernel) rfl : e_Sn 244 2178 (o_callV (e_s1 12 199 1) 1 2181)) t_199_0 t_244_2181
noncomputable def n_244_2177 : e_Y := u_ld f_okA f_l2 n_244_2178
theorem t_244_2177 : e_Sn 244 2177 (e_un n_244_2177) := u_ldAT f_l2_eq (s_aload (i := .aload_n 2) (len := 1) hq_244 (by decide +kernel) rfl (.inr ⟨2, rfl, rfl, rfl⟩) : e_Sn 244 2177 (o_load e_okR 2 2178)) t_244_2178
noncomputable def n_244_2175 : e_Y := u_st f_okI f_s6 n_244_2177
theorem t_244_2175 : e_Sn 244 2175 (e_un n_244_2175) := u_stIT (fun _ _ _ => f_s6_eq) (s_istore (i := .istore 6) (len := 2) hq_244 (by decide +kernel) rfl (.inl ⟨rfl, rfl⟩) : e_Sn 244 2175 (o_store e_okI 6 2177)) t_244_2177
noncomputable def n_244_2172 : e_Y := u_callV 12 173 3 22 3 n_173_0 n_244_2175
theorem t_244_2172 : e_Sn 244 2172 (e_un n_244_2172) := u_callVT rfl (s_callV (ci := 12) (C := er_12) (T := et_12) (N := 5) (index := 237) hq_244 ho_244 hy_173 hp_173 hc_173 hi_173 hd_173 (List.mem_of_getElem? (i := 3134) (by decide +kernel)) hs_173 (List.mem_of_getElem? (i := 3136) (by decide +kernel)) rfl (by decide +kernel) rfl : e_Sn 244 2172 (o_callV (e_s1 12 173 3) 3 2175)) t_173_0 t_244_2175
noncomputable def n_244_2171 : e_Y := u_ald 0 (u_old (o_ald e_fcs 2172) n_244_2172) n_244_2172
theorem t_244_2171 : e_Sn 244 2171 (e_un n_244_2171) := u_aldT (s_iald hq_244 (by decide +kernel) rfl : e_Sn 244 2171 (o_ald e_fcs 2172)) t_244_2172
noncomputable def n_244_2170 : e_Y := u_bin a_iadd (u_old (o_iadd 2171) n_244_2171) n_244_2171
theorem t_244_2170 : e_Sn 244 2170 (e_un n_244_2170) := u_iaddT (s_iadd hq_244 (by decide +kernel) rfl : e_Sn 244 2170 (o_iadd 2171)) t_244_2171
noncomputable def n_244_2169 : e_Y := u_push (.inl 2147483650) n_244_2170
theorem t_244_2169 : e_Sn 244 2169 (e_un n_244_2169) := u_pushT (s_iconst (n := (2)) hq_244 (by decide +kernel) rfl ⟨by decide +kernel, by decide +kernel⟩ : e_Sn 244 2169 (o_push (.inl 2147483650) 2170)) t_244_2170
noncomputable def n_244_2167 : e_Y := u_ld f_okI f_l4 n_244_2169
theorem t_244_2167 : e_Sn 244 2167 (e_un n_244_2167) := u_ldIT f_l4_eq (s_iload (i := .iload 4) (len := 2) hq_244 (by decide +kernel) rfl (.inl ⟨rfl, rfl⟩) : e_Sn 244 2167 (o_load e_okI 4 2169)) t_244_2169
noncomputable def n_244_2166 : e_Y := u_ld f_okA f_l0 n_244_2167
theorem t_244_2166 : e_Sn 244 2166 (e_un n_244_2166) := u_ldAT f_l0_eq (s_aload (i := .aload_n 0) (len := 1) hq_244 (by decide +kernel) rfl (.inr ⟨0, rfl, rfl, rfl⟩) : e_Sn 244 2166 (o_load e_okR 0 2167)) t_244_2167
noncomputable def n_244_2165 : e_Y := u_ald 0 (u_old (o_ald e_fcs 2166) n_244_2166) n_244_2166
theorem t_244_2165 : e_Sn 244 2165 (e_un n_244_2165) := u_aldT (s_iald hq_244 (by decide +kernel) rfl : e_Sn 244 2165 (o_ald e_fcs 2166)) t_244_2166
noncomputable def n_244_2164 : e_Y := u_bin a_iadd (u_old (o_iadd 2165) n_244_2165) n_244_2165
theorem t_244_2164 : e_Sn 244 2164 (e_un n_244_2164) := u_iaddT (s_iadd hq_244 (by decide +kernel) rfl : e_Sn 244 2164 (o_iadd 2165)) t_244_2165
noncomputable def n_244_2163 : e_Y := u_push (.inl 2147483649) n_244_2164
theorem t_244_2163 : e_Sn 244 2163 (e_un n_244_2163) := u_pushT (s_iconst (n := (1)) hq_244 (by decide +kernel) rfl ⟨by decide +kernel, by decide +kernel⟩ : e_Sn 244 2163 (o_push (.inl 2147483649) 2164)) t_244_2164
noncomputable def n_244_2161 : e_Y := u_ld f_okI f_l4 n_244_2163
theorem t_244_2161 : e_Sn 244 2161 (e_un n_244_2161) := u_ldIT f_l4_eq (s_iload (i := .iload 4) (len := 2) hq_244 (by decide +kernel) rfl (.inl ⟨rfl, rfl⟩) : e_Sn 244 2161 (o_load e_okI 4 2163)) t_244_2163
noncomputable def n_244_2160 : e_Y := u_ld f_okA f_l0 n_244_2161
theorem t_244_2160 : e_Sn 244 2160 (e_un n_244_2160) := u_ldAT f_l0_eq (s_aload (i := .aload_n 0) (len := 1) hq_244 (by decide +kernel) rfl (.inr ⟨0, rfl, rfl, rfl⟩) : e_Sn 244 2160 (o_load e_okR 0 2161)) t_244_2161
noncomputable def n_244_2159 : e_Y := u_ld f_okA f_l2 n_244_2160
theorem t_244_2159 : e_Sn 244 2159 (e_un n_244_2159) := u_ldAT f_l2_eq (s_aload (i := .aload_n 2) (len := 1) hq_244 (by decide +kernel) rfl (.inr ⟨2, rfl, rfl, rfl⟩) : e_Sn 244 2159 (o_load e_okR 2 2160)) t_244_2160
noncomputable def n_244_2157 : e_Y := u_st f_okI f_s5 n_244_2159
theorem t_244_2157 : e_Sn 244 2157 (e_un n_244_2157) := u_stIT (fun _ _ _ => f_s5_eq) (s_istore (i := .istore 5) (len := 2) hq_244 (by decide +kernel) rfl (.inl ⟨rfl, rfl⟩) : e_Sn 244 2157 (o_store e_okI 5 2159)) t_244_2159
noncomputable def n_244_2154 : e_Y := u_callS 118 5 24 4 n_118_0 n_244_2157
theorem t_244_2154 : e_Sn 244 2154 (e_un n_244_2154) := u_callST rfl (s_callSW (index := 235) hq_244 ho_244 hy_118 hp_118 hc_118 hi_118 hd_118 (List.mem_of_getElem? (i := 1731) (by decide +kernel)) hs_118 (by decide +kernel) rfl : e_Sn 244 2154 (o_callS 118 5 4 2157)) t_118_0 t_244_2157
noncomputable def n_244_2153 : e_Y := u_ld f_okA f_l3 n_244_2154
theorem t_244_2153 : e_Sn 244 2153 (e_un n_244_2153) := u_ldAT f_l3_eq (s_aload (i := .aload_n 3) (len := 1) hq_244 (by decide +kernel) rfl (.inr ⟨3, rfl, rfl, rfl⟩) : e_Sn 244 2153 (o_load e_okR 3 2154)) t_244_2154
noncomputable def n_244_2152 : e_Y := u_ald 0 (u_old (o_ald e_fcs 2153) n_244_2153) n_244_2153
theorem t_244_2152 : e_Sn 244 2152 (e_un n_244_2152) := u_aldT (s_iald hq_244 (by decide +kernel) rfl : e_Sn 244 2152 (o_ald e_fcs 2153)) t_244_2153
noncomputable def n_244_2151 : e_Y := u_bin a_iadd (u_old (o_iadd 2152) n_244_2152) n_244_2152
theorem t_244_2151 : e_Sn 244 2151 (e_un n_244_2151) := u_iaddT (s_iadd hq_244 (by decide +kernel) rfl : e_Sn 244 2151 (o_iadd 2152)) t_244_2152
noncomputable def n_244_2150 : e_Y := u_push (.inl 2147483650) n_244_2151
theorem t_244_2150 : e_Sn 244 2150 (e_un n_244_2150) := u_pushT (s_iconst (n := (2)) hq_244 (by decide +kernel) rfl ⟨by decide +kernel, by decide +kernel⟩ : e_Sn 244 2150 (o_push (.inl 2147483650) 2151)) t_244_2151
noncomputable def n_244_2148 : e_Y := u_ld f_okI f_l4 n_244_2150
theorem t_244_2148 : e_Sn 244 2148 (e_un n_244_2148) := u_ldIT f_l4_eq (s_iload (i := .iload 4) (len := 2) hq_244 (by decide +kernel) rfl (.inl ⟨rfl, rfl⟩) : e_Sn 244 2148 (o_load e_okI 4 2150)) t_244_2150
noncomputable def n_244_2147 : e_Y := u_ld f_okA f_l0 n_244_2148
theorem t_244_2147 : e_Sn 244 2147 (e_un n_244_2147) := u_ldAT f_l0_eq (s_aload (i := .aload_n 0) (len := 1) hq_244 (by decide +kernel) rfl (.inr ⟨0, rfl, rfl, rfl⟩) : e_Sn 244 2147 (o_load e_okR 0 2148)) t_244_2148
noncomputable def n_244_2146 : e_Y := u_ald 0 (u_old (o_ald e_fcs 2147) n_244_2147) n_244_2147
theorem t_244_2146 : e_Sn 244 2146 (e_un n_244_2146) := u_aldT (s_iald hq_244 (by decide +kernel) rfl : e_Sn 244 2146 (o_ald e_fcs 2147)) t_244_2147
noncomputable def n_244_2145 : e_Y := u_bin a_iadd (u_old (o_iadd 2146) n_244_2146) n_244_2146
theorem t_244_2145 : e_Sn 244 2145 (e_un n_244_2145) := u_iaddT (s_iadd hq_244 (by decide +kernel) rfl : e_Sn 244 2145 (o_iadd 2146)) t_244_2146
noncomputable def n_244_2144 : e_Y := u_push (.inl 2147483649) n_244_2145
theorem t_244_2144 : e_Sn 244 2144 (e_un n_244_2144) := u_pushT (s_iconst (n := (1)) hq_244 (by decide +kernel) rfl ⟨by decide +kernel, by decide +kernel⟩ : e_Sn 244 2144 (o_push (.inl 2147483649) 2145)) t_244_2145
noncomputable def n_244_2142 : e_Y := u_ld f_okI f_l4 n_244_2144
theorem t_244_2142 : e_Sn 244 2142 (e_un n_244_2142) := u_ldIT f_l4_eq (s_iload (i := .iload 4) (len := 2) hq_244 (by decide +kernel) rfl (.inl ⟨rfl, rfl⟩) : e_Sn 244 2142 (o_load e_okI 4 2144)) t_244_2144
noncomputable def n_244_2141 : e_Y := u_ld f_okA f_l0 n_244_2142
theorem t_244_2141 : e_Sn 244 2141 (e_un n_244_2141) := u_ldAT f_l0_eq (s_aload (i := .aload_n 0) (len := 1) hq_244 (by decide +kernel) rfl (.inr ⟨0, rfl, rfl, rfl⟩) : e_Sn 244 2141 (o_load e_okR 0 2142)) t_244_2142
noncomputable def n_244_2140 : e_Y := u_ld f_okA f_l1 n_244_2141
theorem t_244_2140 : e_Sn 244 2140 (e_un n_244_2140) := u_ldAT f_l1_eq (s_aload (i := .aload_n 1) (len := 1) hq_244 (by decide +kernel) rfl (.inr ⟨1, rfl, rfl, rfl⟩) : e_Sn 244 2140 (o_load e_okR 1 2141)) t_244_2141
noncomputable def n_244_2137 : e_Y := n_244_2235
theorem t_244_2137 : e_Sn 244 2137 (e_un n_244_2137) := u_gotoT (s_goto (off := (98)) hq_244 (by decide +kernel) rfl : e_Sn 244 2137 (o_goto 2235)) t_244_2235
noncomputable def n_244_2132 : e_Y := u_if y_ne0 (u_old2 (o_ifeq 2137 2135) 2137 n_244_2137 (u_at 2135)) n_244_2137 (u_at 2135)
theorem t_244_2132 : e_Sn 244 2132 (e_un n_244_2132) := u_ifeqT rfl (s_ifeq (off := (5)) hq_244 (by decide +kernel) rfl rfl : e_Sn 244 2132 (o_ifeq 2137 2135)) t_244_2137 u_atT
noncomputable def n_244_2131 : e_Y := u_old (o_lcmp 2132) n_244_2132
theorem t_244_2131 : e_Sn 244 2131 (e_un n_244_2131) := u_oldT (s_lcmp hq_244 (by decide +kernel) rfl : e_Sn 244 2131 (o_lcmp 2132)) t_244_2132 e_cg_lcmp
noncomputable def n_244_2130 : e_Y := u_old (o_i2l 2131) n_244_2131
theorem t_244_2130 : e_Sn 244 2130 (e_un n_244_2130) := u_oldT (s_i2l hq_244 (by decide +kernel) rfl : e_Sn 244 2130 (o_i2l 2131)) t_244_2131 e_congr_i2l
noncomputable def n_244_2128 : e_Y := u_ld f_okI f_l6 n_244_2130
theorem t_244_2128 : e_Sn 244 2128 (e_un n_244_2128) := u_ldIT f_l6_eq (s_iload (i := .iload 6) (len := 2) hq_244 (by decide +kernel) rfl (.inl ⟨rfl, rfl⟩) : e_Sn 244 2128 (o_load e_okI 6 2130)) t_244_2130
noncomputable def n_244_2127 : e_Y := u_ald 2 (u_old (o_aldO 2 2128) n_244_2128) n_244_2128
theorem t_244_2127 : e_Sn 244 2127 (e_un n_244_2127) := u_aldOT (s_lald hq_244 (by decide +kernel) rfl : e_Sn 244 2127 (o_aldO 2 2128)) t_244_2128
noncomputable def n_244_2126 : e_Y := u_push (.inl 2147483648) n_244_2127
theorem t_244_2126 : e_Sn 244 2126 (e_un n_244_2126) := u_pushT (s_iconst (n := (0)) hq_244 (by decide +kernel) rfl ⟨by decide +kernel, by decide +kernel⟩ : e_Sn 244 2126 (o_push (.inl 2147483648) 2127)) t_244_2127
noncomputable def n_244_2125 : e_Y := u_ld f_okA f_l3 n_244_2126
theorem t_244_2125 : e_Sn 244 2125 (e_un n_244_2125) := u_ldAT f_l3_eq (s_aload (i := .aload_n 3) (len := 1) hq_244 (by decide +kernel) rfl (.inr ⟨3, rfl, rfl, rfl⟩) : e_Sn 244 2125 (o_load e_okR 3 2126)) t_244_2126
noncomputable def n_244_2122 : e_Y := u_if y_ne0 (u_old2 (o_ifeq 2125 2137) 2125 n_244_2125 n_244_2137) n_244_2125 n_244_2137
theorem t_244_2122 : e_Sn 244 2122 (e_un n_244_2122) := u_ifeqT rfl (s_ifne (off := (15)) hq_244 (by decide +kernel) rfl rfl : e_Sn 244 2122 (o_ifeq 2125 2137)) t_244_2125 t_244_2137
noncomputable def n_244_2120 : e_Y := u_ld f_okI f_l5 n_244_2122
theorem t_244_2120 : e_Sn 244 2120 (e_un n_244_2120) := u_ldIT f_l5_eq (s_iload (i := .iload 5) (len := 2) hq_244 (by decide +kernel) rfl (.inl ⟨rfl, rfl⟩) : e_Sn 244 2120 (o_load e_okI 5 2122)) t_244_2122
noncomputable def n_244_2115 : e_Y := u_jmp y_ne (u_old2 (o_ceq 2120 2118) 2120 n_244_2120 (u_at 2118)) n_244_2120 (u_at 2118)
theorem t_244_2115 : e_Sn 244 2115 (e_un n_244_2115) := u_ceqT rfl (s_ceq (off := (5)) hq_244 (by decide +kernel) rfl rfl : e_Sn 244 2115 (o_ceq 2120 2118)) t_244_2120 u_atT
noncomputable def n_244_2113 : e_Y := u_ld f_okI f_l5 n_244_2115
theorem t_244_2113 : e_Sn 244 2113 (e_un n_244_2113) := u_ldIT f_l5_eq (s_iload (i := .iload 5) (len := 2) hq_244 (by decide +kernel) rfl (.inl ⟨rfl, rfl⟩) : e_Sn 244 2113 (o_load e_okI 5 2115)) t_244_2115
noncomputable def n_244_2110 : e_Y := u_callV 12 199 1 20 1 n_199_0 n_244_2113
theorem t_244_2110 : e_Sn 244 2110 (e_un n_244_2110) := u_callVT rfl (s_callV (ci := 12) (C := er_12) (T := et_12) (N := 5) (index := 117) hq_244 ho_244 hy_199 hp_199 hc_199 hi_199 hd_199 (List.mem_of_getElem? (i := 1974) (by decide +kernel)) hs_199 (List.mem_of_getElem? (i := 1976) (by decide +kernel)) rfl (by decide +kernel) rfl : e_Sn 244 2110 (o_callV (e_s1 12 199 1) 1 2113)) t_199_0 t_244_2113
noncomputable def n_244_2109 : e_Y := u_ld f_okA f_l2 n_244_2110
theorem t_244_2109 : e_Sn 244 2109 (e_un n_244_2109) := u_ldAT f_l2_eq (s_aload (i := .aload_n 2) (len := 1) hq_244 (by decide +kernel) rfl (.inr ⟨2, rfl, rfl, rfl⟩) : e_Sn 244 2109 (o_load e_okR 2 2110)) t_244_2110
noncomputable def n_244_2107 : e_Y := u_st f_okI f_s6 n_244_2109
theorem t_244_2107 : e_Sn 244 2107 (e_un n_244_2107) := u_stIT (fun _ _ _ => f_s6_eq) (s_istore (i := .istore 6) (len := 2) hq_244 (by decide +kernel) rfl (.inl ⟨rfl, rfl⟩) : e_Sn 244 2107 (o_store e_okI 6 2109)) t_244_2109
noncomputable def n_244_2104 : e_Y := u_callV 12 181 2 21 2 n_181_0 n_244_2107
theorem t_244_2104 : e_Sn 244 2104 (e_un n_244_2104) := u_callVT rfl (s_callV (ci := 12) (C := er_12) (T := et_12) (N := 5) (index := 234) hq_244 ho_244 hy_181 hp_181 hc_181 hi_181 hd_181 (List.mem_of_getElem? (i := 3126) (by decide +kernel)) hs_181 (List.mem_of_getElem? (i := 3128) (by decide +kernel)) rfl (by decide +kernel) rfl : e_Sn 244 2104 (o_callV (e_s1 12 181 2) 2 2107)) t_181_0 t_244_2107
noncomputable def n_244_2103 : e_Y := u_ald 0 (u_old (o_ald e_fcs 2104) n_244_2104) n_244_2104
theorem t_244_2103 : e_Sn 244 2103 (e_un n_244_2103) := u_aldT (s_iald hq_244 (by decide +kernel) rfl : e_Sn 244 2103 (o_ald e_fcs 2104)) t_244_2104
noncomputable def n_244_2102 : e_Y := u_bin a_iadd (u_old (o_iadd 2103) n_244_2103) n_244_2103
theorem t_244_2102 : e_Sn 244 2102 (e_un n_244_2102) := u_iaddT (s_iadd hq_244 (by decide +kernel) rfl : e_Sn 244 2102 (o_iadd 2103)) t_244_2103
noncomputable def n_244_2101 : e_Y := u_push (.inl 2147483649) n_244_2102
theorem t_244_2101 : e_Sn 244 2101 (e_un n_244_2101) := u_pushT (s_iconst (n := (1)) hq_244 (by decide +kernel) rfl ⟨by decide +kernel, by decide +kernel⟩ : e_Sn 244 2101 (o_push (.inl 2147483649) 2102)) t_244_2102
noncomputable def n_244_2099 : e_Y := u_ld f_okI f_l4 n_244_2101
theorem t_244_2099 : e_Sn 244 2099 (e_un n_244_2099) := u_ldIT f_l4_eq (s_iload (i := .iload 4) (len := 2) hq_244 (by decide +kernel) rfl (.inl ⟨rfl, rfl⟩) : e_Sn 244 2099 (o_load e_okI 4 2101)) t_244_2101
noncomputable def n_244_2098 : e_Y := u_ld f_okA f_l0 n_244_2099
theorem t_244_2098 : e_Sn 244 2098 (e_un n_244_2098) := u_ldAT f_l0_eq (s_aload (i := .aload_n 0) (len := 1) hq_244 (by decide +kernel) rfl (.inr ⟨0, rfl, rfl, rfl⟩) : e_Sn 244 2098 (o_load e_okR 0 2099)) t_244_2099
noncomputable def n_244_2097 : e_Y := u_ld f_okA f_l2 n_244_2098
theorem t_244_2097 : e_Sn 244 2097 (e_un n_244_2097) := u_ldAT f_l2_eq (s_aload (i := .aload_n 2) (len := 1) hq_244 (by decide +kernel) rfl (.inr ⟨2, rfl, rfl, rfl⟩) : e_Sn 244 2097 (o_load e_okR 2 2098)) t_244_2098
noncomputable def n_244_2095 : e_Y := u_st f_okI f_s5 n_244_2097
theorem t_244_2095 : e_Sn 244 2095 (e_un n_244_2095) := u_stIT (fun _ _ _ => f_s5_eq) (s_istore (i := .istore 5) (len := 2) hq_244 (by decide +kernel) rfl (.inl ⟨rfl, rfl⟩) : e_Sn 244 2095 (o_store e_okI 5 2097)) t_244_2097
noncomputable def n_244_2092 : e_Y := u_callS 122 4 23 3 n_122_0 n_244_2095
theorem t_244_2092 : e_Sn 244 2092 (e_un n_244_2092) := u_callST rfl (s_callSW (index := 232) hq_244 ho_244 hy_122 hp_122 hc_122 hi_122 hd_122 (List.mem_of_getElem? (i := 1727) (by decide +kernel)) hs_122 (by decide +kernel) rfl : e_Sn 244 2092 (o_callS 122 4 3 2095)) t_122_0 t_244_2095
noncomputable def n_244_2091 : e_Y := u_ld f_okA f_l3 n_244_2092
theorem t_244_2091 : e_Sn 244 2091 (e_un n_244_2091) := u_ldAT f_l3_eq (s_aload (i := .aload_n 3) (len := 1) hq_244 (by decide +kernel) rfl (.inr ⟨3, rfl, rfl, rfl⟩) : e_Sn 244 2091 (o_load e_okR 3 2092)) t_244_2092
noncomputable def n_244_2090 : e_Y := u_ald 0 (u_old (o_ald e_fcs 2091) n_244_2091) n_244_2091
theorem t_244_2090 : e_Sn 244 2090 (e_un n_244_2090) := u_aldT (s_iald hq_244 (by decide +kernel) rfl : e_Sn 244 2090 (o_ald e_fcs 2091)) t_244_2091
noncomputable def n_244_2089 : e_Y := u_bin a_iadd (u_old (o_iadd 2090) n_244_2090) n_244_2090
theorem t_244_2089 : e_Sn 244 2089 (e_un n_244_2089) := u_iaddT (s_iadd hq_244 (by decide +kernel) rfl : e_Sn 244 2089 (o_iadd 2090)) t_244_2090
noncomputable def n_244_2088 : e_Y := u_push (.inl 2147483649) n_244_2089
theorem t_244_2088 : e_Sn 244 2088 (e_un n_244_2088) := u_pushT (s_iconst (n := (1)) hq_244 (by decide +kernel) rfl ⟨by decide +kernel, by decide +kernel⟩ : e_Sn 244 2088 (o_push (.inl 2147483649) 2089)) t_244_2089
noncomputable def n_244_2086 : e_Y := u_ld f_okI f_l4 n_244_2088
theorem t_244_2086 : e_Sn 244 2086 (e_un n_244_2086) := u_ldIT f_l4_eq (s_iload (i := .iload 4) (len := 2) hq_244 (by decide +kernel) rfl (.inl ⟨rfl, rfl⟩) : e_Sn 244 2086 (o_load e_okI 4 2088)) t_244_2088
noncomputable def n_244_2085 : e_Y := u_ld f_okA f_l0 n_244_2086
theorem t_244_2085 : e_Sn 244 2085 (e_un n_244_2085) := u_ldAT f_l0_eq (s_aload (i := .aload_n 0) (len := 1) hq_244 (by decide +kernel) rfl (.inr ⟨0, rfl, rfl, rfl⟩) : e_Sn 244 2085 (o_load e_okR 0 2086)) t_244_2086
noncomputable def n_244_2084 : e_Y := u_ld f_okA f_l1 n_244_2085
theorem t_244_2084 : e_Sn 244 2084 (e_un n_244_2084) := u_ldAT f_l1_eq (s_aload (i := .aload_n 1) (len := 1) hq_244 (by decide +kernel) rfl (.inr ⟨1, rfl, rfl, rfl⟩) : e_Sn 244 2084 (o_load e_okR 1 2085)) t_244_2085
noncomputable def n_244_2081 : e_Y := n_244_2235
theorem t_244_2081 : e_Sn 244 2081 (e_un n_244_2081) := u_gotoT (s_goto (off := (154)) hq_244 (by decide +kernel) rfl : e_Sn 244 2081 (o_goto 2235)) t_244_2235
noncomputable def n_244_2076 : e_Y := u_if y_ne0 (u_old2 (o_ifeq 2081 2079) 2081 n_244_2081 (u_at 2079)) n_244_2081 (u_at 2079)
theorem t_244_2076 : e_Sn 244 2076 (e_un n_244_2076) := u_ifeqT rfl (s_ifeq (off := (5)) hq_244 (by decide +kernel) rfl rfl : e_Sn 244 2076 (o_ifeq 2081 2079)) t_244_2081 u_atT
noncomputable def n_244_2075 : e_Y := u_old (o_lcmp 2076) n_244_2076
theorem t_244_2075 : e_Sn 244 2075 (e_un n_244_2075) := u_oldT (s_lcmp hq_244 (by decide +kernel) rfl : e_Sn 244 2075 (o_lcmp 2076)) t_244_2076 e_cg_lcmp
noncomputable def n_244_2074 : e_Y := u_old (o_i2l 2075) n_244_2075
theorem t_244_2074 : e_Sn 244 2074 (e_un n_244_2074) := u_oldT (s_i2l hq_244 (by decide +kernel) rfl : e_Sn 244 2074 (o_i2l 2075)) t_244_2075 e_congr_i2l
noncomputable def n_244_2072 : e_Y := u_ld f_okI f_l6 n_244_2074
theorem t_244_2072 : e_Sn 244 2072 (e_un n_244_2072) := u_ldIT f_l6_eq (s_iload (i := .iload 6) (len := 2) hq_244 (by decide +kernel) rfl (.inl ⟨rfl, rfl⟩) : e_Sn 244 2072 (o_load e_okI 6 2074)) t_244_2074
noncomputable def n_244_2071 : e_Y := u_ald 2 (u_old (o_aldO 2 2072) n_244_2072) n_244_2072
theorem t_244_2071 : e_Sn 244 2071 (e_un n_244_2071) := u_aldOT (s_lald hq_244 (by decide +kernel) rfl : e_Sn 244 2071 (o_aldO 2 2072)) t_244_2072
noncomputable def n_244_2070 : e_Y := u_push (.inl 2147483648) n_244_2071
theorem t_244_2070 : e_Sn 244 2070 (e_un n_244_2070) := u_pushT (s_iconst (n := (0)) hq_244 (by decide +kernel) rfl ⟨by decide +kernel, by decide +kernel⟩ : e_Sn 244 2070 (o_push (.inl 2147483648) 2071)) t_244_2071
noncomputable def n_244_2069 : e_Y := u_ld f_okA f_l3 n_244_2070
theorem t_244_2069 : e_Sn 244 2069 (e_un n_244_2069) := u_ldAT f_l3_eq (s_aload (i := .aload_n 3) (len := 1) hq_244 (by decide +kernel) rfl (.inr ⟨3, rfl, rfl, rfl⟩) : e_Sn 244 2069 (o_load e_okR 3 2070)) t_244_2070
noncomputable def n_244_2066 : e_Y := u_if y_ne0 (u_old2 (o_ifeq 2069 2081) 2069 n_244_2069 n_244_2081) n_244_2069 n_244_2081
theorem t_244_2066 : e_Sn 244 2066 (e_un n_244_2066) := u_ifeqT rfl (s_ifne (off := (15)) hq_244 (by decide +kernel) rfl rfl : e_Sn 244 2066 (o_ifeq 2069 2081)) t_244_2069 t_244_2081
noncomputable def n_244_2064 : e_Y := u_ld f_okI f_l5 n_244_2066
theorem t_244_2064 : e_Sn 244 2064 (e_un n_244_2064) := u_ldIT f_l5_eq (s_iload (i := .iload 5) (len := 2) hq_244 (by decide +kernel) rfl (.inl ⟨rfl, rfl⟩) : e_Sn 244 2064 (o_load e_okI 5 2066)) t_244_2066
noncomputable def n_244_2059 : e_Y := u_jmp y_ne (u_old2 (o_ceq 2064 2062) 2064 n_244_2064 (u_at 2062)) n_244_2064 (u_at 2062)
theorem t_244_2059 : e_Sn 244 2059 (e_un n_244_2059) := u_ceqT rfl (s_ceq (off := (5)) hq_244 (by decide +kernel) rfl rfl : e_Sn 244 2059 (o_ceq 2064 2062)) t_244_2064 u_atT
noncomputable def n_244_2057 : e_Y := u_ld f_okI f_l5 n_244_2059
theorem t_244_2057 : e_Sn 244 2057 (e_un n_244_2057) := u_ldIT f_l5_eq (s_iload (i := .iload 5) (len := 2) hq_244 (by decide +kernel) rfl (.inl ⟨rfl, rfl⟩) : e_Sn 244 2057 (o_load e_okI 5 2059)) t_244_2059
noncomputable def n_244_2054 : e_Y := u_callV 12 199 1 20 1 n_199_0 n_244_2057
theorem t_244_2054 : e_Sn 244 2054 (e_un n_244_2054) := u_callVT rfl (s_callV (ci := 12) (C := er_12) (T := et_12) (N := 5) (index := 117) hq_244 ho_244 hy_199 hp_199 hc_199 hi_199 hd_199 (List.mem_of_getElem? (i := 1974) (by decide +kernel)) hs_199 (List.mem_of_getElem? (i := 1976) (by decide +kernel)) rfl (by decide +kernel) rfl : e_Sn 244 2054 (o_callV (e_s1 12 199 1) 1 2057)) t_199_0 t_244_2057
noncomputable def n_244_2053 : e_Y := u_ld f_okA f_l2 n_244_2054
theorem t_244_2053 : e_Sn 244 2053 (e_un n_244_2053) := u_ldAT f_l2_eq (s_aload (i := .aload_n 2) (len := 1) hq_244 (by decide +kernel) rfl (.inr ⟨2, rfl, rfl, rfl⟩) : e_Sn 244 2053 (o_load e_okR 2 2054)) t_244_2054
noncomputable def n_244_2051 : e_Y := u_st f_okI f_s6 n_244_2053
theorem t_244_2051 : e_Sn 244 2051 (e_un n_244_2051) := u_stIT (fun _ _ _ => f_s6_eq) (s_istore (i := .istore 6) (len := 2) hq_244 (by decide +kernel) rfl (.inl ⟨rfl, rfl⟩) : e_Sn 244 2051 (o_store e_okI 6 2053)) t_244_2053
noncomputable def n_244_2048 : e_Y := u_callV 12 192 3 22 3 n_192_0 n_244_2051
theorem t_244_2048 : e_Sn 244 2048 (e_un n_244_2048) := u_callVT rfl (s_callV (ci := 12) (C := er_12) (T := et_12) (N := 5) (index := 231) hq_244 ho_244 hy_192 hp_192 hc_192 hi_192 hd_192 (List.mem_of_getElem? (i := 3117) (by decide +kernel)) hs_192 (List.mem_of_getElem? (i := 3119) (by decide +kernel)) rfl (by decide +kernel) rfl : e_Sn 244 2048 (o_callV (e_s1 12 192 3) 3 2051)) t_192_0 t_244_2051
noncomputable def n_244_2047 : e_Y := u_ald 0 (u_old (o_ald e_fcs 2048) n_244_2048) n_244_2048
theorem t_244_2047 : e_Sn 244 2047 (e_un n_244_2047) := u_aldT (s_iald hq_244 (by decide +kernel) rfl : e_Sn 244 2047 (o_ald e_fcs 2048)) t_244_2048
noncomputable def n_244_2046 : e_Y := u_bin a_iadd (u_old (o_iadd 2047) n_244_2047) n_244_2047
theorem t_244_2046 : e_Sn 244 2046 (e_un n_244_2046) := u_iaddT (s_iadd hq_244 (by decide +kernel) rfl : e_Sn 244 2046 (o_iadd 2047)) t_244_2047
noncomputable def n_244_2045 : e_Y := u_push (.inl 2147483650) n_244_2046
theorem t_244_2045 : e_Sn 244 2045 (e_un n_244_2045) := u_pushT (s_iconst (n := (2)) hq_244 (by decide +kernel) rfl ⟨by decide +kernel, by decide +kernel⟩ : e_Sn 244 2045 (o_push (.inl 2147483650) 2046)) t_244_2046
noncomputable def n_244_2043 : e_Y := u_ld f_okI f_l4 n_244_2045
theorem t_244_2043 : e_Sn 244 2043 (e_un n_244_2043) := u_ldIT f_l4_eq (s_iload (i := .iload 4) (len := 2) hq_244 (by decide +kernel) rfl (.inl ⟨rfl, rfl⟩) : e_Sn 244 2043 (o_load e_okI 4 2045)) t_244_2045
noncomputable def n_244_2042 : e_Y := u_ld f_okA f_l0 n_244_2043
theorem t_244_2042 : e_Sn 244 2042 (e_un n_244_2042) := u_ldAT f_l0_eq (s_aload (i := .aload_n 0) (len := 1) hq_244 (by decide +kernel) rfl (.inr ⟨0, rfl, rfl, rfl⟩) : e_Sn 244 2042 (o_load e_okR 0 2043)) t_244_2043
noncomputable def n_244_2041 : e_Y := u_ald 0 (u_old (o_ald e_fcs 2042) n_244_2042) n_244_2042
theorem t_244_2041 : e_Sn 244 2041 (e_un n_244_2041) := u_aldT (s_iald hq_244 (by decide +kernel) rfl : e_Sn 244 2041 (o_ald e_fcs 2042)) t_244_2042
noncomputable def n_244_2040 : e_Y := u_bin a_iadd (u_old (o_iadd 2041) n_244_2041) n_244_2041
theorem t_244_2040 : e_Sn 244 2040 (e_un n_244_2040) := u_iaddT (s_iadd hq_244 (by decide +kernel) rfl : e_Sn 244 2040 (o_iadd 2041)) t_244_2041
noncomputable def n_244_2039 : e_Y := u_push (.inl 2147483649) n_244_2040
theorem t_244_2039 : e_Sn 244 2039 (e_un n_244_2039) := u_pushT (s_iconst (n := (1)) hq_244 (by decide +kernel) rfl ⟨by decide +kernel, by decide +kernel⟩ : e_Sn 244 2039 (o_push (.inl 2147483649) 2040)) t_244_2040
noncomputable def n_244_2037 : e_Y := u_ld f_okI f_l4 n_244_2039
theorem t_244_2037 : e_Sn 244 2037 (e_un n_244_2037) := u_ldIT f_l4_eq (s_iload (i := .iload 4) (len := 2) hq_244 (by decide +kernel) rfl (.inl ⟨rfl, rfl⟩) : e_Sn 244 2037 (o_load e_okI 4 2039)) t_244_2039
noncomputable def n_244_2036 : e_Y := u_ld f_okA f_l0 n_244_2037
theorem t_244_2036 : e_Sn 244 2036 (e_un n_244_2036) := u_ldAT f_l0_eq (s_aload (i := .aload_n 0) (len := 1) hq_244 (by decide +kernel) rfl (.inr ⟨0, rfl, rfl, rfl⟩) : e_Sn 244 2036 (o_load e_okR 0 2037)) t_244_2037
noncomputable def n_244_2035 : e_Y := u_ld f_okA f_l2 n_244_2036
theorem t_244_2035 : e_Sn 244 2035 (e_un n_244_2035) := u_ldAT f_l2_eq (s_aload (i := .aload_n 2) (len := 1) hq_244 (by decide +kernel) rfl (.inr ⟨2, rfl, rfl, rfl⟩) : e_Sn 244 2035 (o_load e_okR 2 2036)) t_244_2036
noncomputable def n_244_2033 : e_Y := u_st f_okI f_s5 n_244_2035
theorem t_244_2033 : e_Sn 244 2033 (e_un n_244_2033) := u_stIT (fun _ _ _ => f_s5_eq) (s_istore (i := .istore 5) (len := 2) hq_244 (by decide +kernel) rfl (.inl ⟨rfl, rfl⟩) : e_Sn 244 2033 (o_store e_okI 5 2035)) t_244_2035
noncomputable def n_244_2030 : e_Y := u_callS 126 5 24 4 n_126_0 n_244_2033
theorem t_244_2030 : e_Sn 244 2030 (e_un n_244_2030) := u_callST rfl (s_callSW (index := 229) hq_244 ho_244 hy_126 hp_126 hc_126 hi_126 hd_126 (List.mem_of_getElem? (i := 1720) (by decide +kernel)) hs_126 (by decide +kernel) rfl : e_Sn 244 2030 (o_callS 126 5 4 2033)) t_126_0 t_244_2033
noncomputable def n_244_2029 : e_Y := u_ld f_okA f_l3 n_244_2030
theorem t_244_2029 : e_Sn 244 2029 (e_un n_244_2029) := u_ldAT f_l3_eq (s_aload (i := .aload_n 3) (len := 1) hq_244 (by decide +kernel) rfl (.inr ⟨3, rfl, rfl, rfl⟩) : e_Sn 244 2029 (o_load e_okR 3 2030)) t_244_2030
noncomputable def n_244_2028 : e_Y := u_ald 0 (u_old (o_ald e_fcs 2029) n_244_2029) n_244_2029
theorem t_244_2028 : e_Sn 244 2028 (e_un n_244_2028) := u_aldT (s_iald hq_244 (by decide +kernel) rfl : e_Sn 244 2028 (o_ald e_fcs 2029)) t_244_2029
noncomputable def n_244_2027 : e_Y := u_bin a_iadd (u_old (o_iadd 2028) n_244_2028) n_244_2028
theorem t_244_2027 : e_Sn 244 2027 (e_un n_244_2027) := u_iaddT (s_iadd hq_244 (by decide +kernel) rfl : e_Sn 244 2027 (o_iadd 2028)) t_244_2028
noncomputable def n_244_2026 : e_Y := u_push (.inl 2147483650) n_244_2027
theorem t_244_2026 : e_Sn 244 2026 (e_un n_244_2026) := u_pushT (s_iconst (n := (2)) hq_244 (by decide +kernel) rfl ⟨by decide +kernel, by decide +kernel⟩ : e_Sn 244 2026 (o_push (.inl 2147483650) 2027)) t_244_2027
noncomputable def n_244_2024 : e_Y := u_ld f_okI f_l4 n_244_2026
theorem t_244_2024 : e_Sn 244 2024 (e_un n_244_2024) := u_ldIT f_l4_eq (s_iload (i := .iload 4) (len := 2) hq_244 (by decide +kernel) rfl (.inl ⟨rfl, rfl⟩) : e_Sn 244 2024 (o_load e_okI 4 2026)) t_244_2026
noncomputable def n_244_2023 : e_Y := u_ld f_okA f_l0 n_244_2024
theorem t_244_2023 : e_Sn 244 2023 (e_un n_244_2023) := u_ldAT f_l0_eq (s_aload (i := .aload_n 0) (len := 1) hq_244 (by decide +kernel) rfl (.inr ⟨0, rfl, rfl, rfl⟩) : e_Sn 244 2023 (o_load e_okR 0 2024)) t_244_2024
noncomputable def n_244_2022 : e_Y := u_ald 0 (u_old (o_ald e_fcs 2023) n_244_2023) n_244_2023
theorem t_244_2022 : e_Sn 244 2022 (e_un n_244_2022) := u_aldT (s_iald hq_244 (by decide +kernel) rfl : e_Sn 244 2022 (o_ald e_fcs 2023)) t_244_2023
noncomputable def n_244_2021 : e_Y := u_bin a_iadd (u_old (o_iadd 2022) n_244_2022) n_244_2022
theorem t_244_2021 : e_Sn 244 2021 (e_un n_244_2021) := u_iaddT (s_iadd hq_244 (by decide +kernel) rfl : e_Sn 244 2021 (o_iadd 2022)) t_244_2022
noncomputable def n_244_2020 : e_Y := u_push (.inl 2147483649) n_244_2021
theorem t_244_2020 : e_Sn 244 2020 (e_un n_244_2020) := u_pushT (s_iconst (n := (1)) hq_244 (by decide +kernel) rfl ⟨by decide +kernel, by decide +kernel⟩ : e_Sn 244 2020 (o_push (.inl 2147483649) 2021)) t_244_2021
noncomputable def n_244_2018 : e_Y := u_ld f_okI f_l4 n_244_2020
theorem t_244_2018 : e_Sn 244 2018 (e_un n_244_2018) := u_ldIT f_l4_eq (s_iload (i := .iload 4) (len := 2) hq_244 (by decide +kernel) rfl (.inl ⟨rfl, rfl⟩) : e_Sn 244 2018 (o_load e_okI 4 2020)) t_244_2020
noncomputable def n_244_2017 : e_Y := u_ld f_okA f_l0 n_244_2018
theorem t_244_2017 : e_Sn 244 2017 (e_un n_244_2017) := u_ldAT f_l0_eq (s_aload (i := .aload_n 0) (len := 1) hq_244 (by decide +kernel) rfl (.inr ⟨0, rfl, rfl, rfl⟩) : e_Sn 244 2017 (o_load e_okR 0 2018)) t_244_2018
noncomputable def n_244_2016 : e_Y := u_ld f_okA f_l1 n_244_2017
theorem t_244_2016 : e_Sn 244 2016 (e_un n_244_2016) := u_ldAT f_l1_eq (s_aload (i := .aload_n 1) (len := 1) hq_244 (by decide +kernel) rfl (.inr ⟨1, rfl, rfl, rfl⟩) : e_Sn 244 2016 (o_load e_okR 1 2017)) t_244_2017
noncomputable def n_244_2013 : e_Y := n_244_2235
theorem t_244_2013 : e_Sn 244 2013 (e_un n_244_2013) := u_gotoT (s_goto (off := (222)) hq_244 (by decide +kernel) rfl : e_Sn 244 2013 (o_goto 2235)) t_244_2235
noncomputable def n_244_2008 : e_Y := u_if y_ne0 (u_old2 (o_ifeq 2013 2011) 2013 n_244_2013 (u_at 2011)) n_244_2013 (u_at 2011)
theorem t_244_2008 : e_Sn 244 2008 (e_un n_244_2008) := u_ifeqT rfl (s_ifeq (off := (5)) hq_244 (by decide +kernel) rfl rfl : e_Sn 244 2008 (o_ifeq 2013 2011)) t_244_2013 u_atT
noncomputable def n_244_2007 : e_Y := u_old (o_lcmp 2008) n_244_2008
theorem t_244_2007 : e_Sn 244 2007 (e_un n_244_2007) := u_oldT (s_lcmp hq_244 (by decide +kernel) rfl : e_Sn 244 2007 (o_lcmp 2008)) t_244_2008 e_cg_lcmp
noncomputable def n_244_2006 : e_Y := u_old (o_i2l 2007) n_244_2007
theorem t_244_2006 : e_Sn 244 2006 (e_un n_244_2006) := u_oldT (s_i2l hq_244 (by decide +kernel) rfl : e_Sn 244 2006 (o_i2l 2007)) t_244_2007 e_congr_i2l
noncomputable def n_244_2004 : e_Y := u_ld f_okI f_l6 n_244_2006
theorem t_244_2004 : e_Sn 244 2004 (e_un n_244_2004) := u_ldIT f_l6_eq (s_iload (i := .iload 6) (len := 2) hq_244 (by decide +kernel) rfl (.inl ⟨rfl, rfl⟩) : e_Sn 244 2004 (o_load e_okI 6 2006)) t_244_2006
noncomputable def n_244_2003 : e_Y := u_ald 2 (u_old (o_aldO 2 2004) n_244_2004) n_244_2004
theorem t_244_2003 : e_Sn 244 2003 (e_un n_244_2003) := u_aldOT (s_lald hq_244 (by decide +kernel) rfl : e_Sn 244 2003 (o_aldO 2 2004)) t_244_2004
noncomputable def n_244_2002 : e_Y := u_push (.inl 2147483648) n_244_2003
theorem t_244_2002 : e_Sn 244 2002 (e_un n_244_2002) := u_pushT (s_iconst (n := (0)) hq_244 (by decide +kernel) rfl ⟨by decide +kernel, by decide +kernel⟩ : e_Sn 244 2002 (o_push (.inl 2147483648) 2003)) t_244_2003
noncomputable def n_244_2001 : e_Y := u_ld f_okA f_l3 n_244_2002
theorem t_244_2001 : e_Sn 244 2001 (e_un n_244_2001) := u_ldAT f_l3_eq (s_aload (i := .aload_n 3) (len := 1) hq_244 (by decide +kernel) rfl (.inr ⟨3, rfl, rfl, rfl⟩) : e_Sn 244 2001 (o_load e_okR 3 2002)) t_244_2002
noncomputable def n_244_1998 : e_Y := u_if y_ne0 (u_old2 (o_ifeq 2001 2013) 2001 n_244_2001 n_244_2013) n_244_2001 n_244_2013
theorem t_244_1998 : e_Sn 244 1998 (e_un n_244_1998) := u_ifeqT rfl (s_ifne (off := (15)) hq_244 (by decide +kernel) rfl rfl : e_Sn 244 1998 (o_ifeq 2001 2013)) t_244_2001 t_244_2013
noncomputable def n_244_1996 : e_Y := u_ld f_okI f_l5 n_244_1998
theorem t_244_1996 : e_Sn 244 1996 (e_un n_244_1996) := u_ldIT f_l5_eq (s_iload (i := .iload 5) (len := 2) hq_244 (by decide +kernel) rfl (.inl ⟨rfl, rfl⟩) : e_Sn 244 1996 (o_load e_okI 5 1998)) t_244_1998
noncomputable def n_244_1991 : e_Y := u_jmp y_ne (u_old2 (o_ceq 1996 1994) 1996 n_244_1996 (u_at 1994)) n_244_1996 (u_at 1994)
theorem t_244_1991 : e_Sn 244 1991 (e_un n_244_1991) := u_ceqT rfl (s_ceq (off := (5)) hq_244 (by decide +kernel) rfl rfl : e_Sn 244 1991 (o_ceq 1996 1994)) t_244_1996 u_atT
noncomputable def n_244_1989 : e_Y := u_ld f_okI f_l5 n_244_1991
theorem t_244_1989 : e_Sn 244 1989 (e_un n_244_1989) := u_ldIT f_l5_eq (s_iload (i := .iload 5) (len := 2) hq_244 (by decide +kernel) rfl (.inl ⟨rfl, rfl⟩) : e_Sn 244 1989 (o_load e_okI 5 1991)) t_244_1991
noncomputable def n_244_1986 : e_Y := u_callV 12 199 1 20 1 n_199_0 n_244_1989
theorem t_244_1986 : e_Sn 244 1986 (e_un n_244_1986) := u_callVT rfl (s_callV (ci := 12) (C := er_12) (T := et_12) (N := 5) (index := 117) hq_244 ho_244 hy_199 hp_199 hc_199 hi_199 hd_199 (List.mem_of_getElem? (i := 1974) (by decide +kernel)) hs_199 (List.mem_of_getElem? (i := 1976) (by decide +kernel)) rfl (by decide +kernel) rfl : e_Sn 244 1986 (o_callV (e_s1 12 199 1) 1 1989)) t_199_0 t_244_1989
noncomputable def n_244_1985 : e_Y := u_ld f_okA f_l2 n_244_1986
theorem t_244_1985 : e_Sn 244 1985 (e_un n_244_1985) := u_ldAT f_l2_eq (s_aload (i := .aload_n 2) (len := 1) hq_244 (by decide +kernel) rfl (.inr ⟨2, rfl, rfl, rfl⟩) : e_Sn 244 1985 (o_load e_okR 2 1986)) t_244_1986
noncomputable def n_244_1983 : e_Y := u_st f_okI f_s6 n_244_1985
theorem t_244_1983 : e_Sn 244 1983 (e_un n_244_1983) := u_stIT (fun _ _ _ => f_s6_eq) (s_istore (i := .istore 6) (len := 2) hq_244 (by decide +kernel) rfl (.inl ⟨rfl, rfl⟩) : e_Sn 244 1983 (o_store e_okI 6 1985)) t_244_1985
noncomputable def n_244_1980 : e_Y := u_callV 12 193 2 21 2 n_193_0 n_244_1983
theorem t_244_1980 : e_Sn 244 1980 (e_un n_244_1980) := u_callVT rfl (s_callV (ci := 12) (C := er_12) (T := et_12) (N := 5) (index := 228) hq_244 ho_244 hy_193 hp_193 hc_193 hi_193 hd_193 (List.mem_of_getElem? (i := 3089) (by decide +kernel)) hs_193 (List.mem_of_getElem? (i := 3091) (by decide +kernel)) rfl (by decide +kernel) rfl : e_Sn 244 1980 (o_callV (e_s1 12 193 2) 2 1983)) t_193_0 t_244_1983
noncomputable def n_244_1979 : e_Y := u_ald 0 (u_old (o_ald e_fcs 1980) n_244_1980) n_244_1980
theorem t_244_1979 : e_Sn 244 1979 (e_un n_244_1979) := u_aldT (s_iald hq_244 (by decide +kernel) rfl : e_Sn 244 1979 (o_ald e_fcs 1980)) t_244_1980
noncomputable def n_244_1978 : e_Y := u_bin a_iadd (u_old (o_iadd 1979) n_244_1979) n_244_1979
theorem t_244_1978 : e_Sn 244 1978 (e_un n_244_1978) := u_iaddT (s_iadd hq_244 (by decide +kernel) rfl : e_Sn 244 1978 (o_iadd 1979)) t_244_1979
noncomputable def n_244_1977 : e_Y := u_push (.inl 2147483649) n_244_1978
theorem t_244_1977 : e_Sn 244 1977 (e_un n_244_1977) := u_pushT (s_iconst (n := (1)) hq_244 (by decide +kernel) rfl ⟨by decide +kernel, by decide +kernel⟩ : e_Sn 244 1977 (o_push (.inl 2147483649) 1978)) t_244_1978
noncomputable def n_244_1975 : e_Y := u_ld f_okI f_l4 n_244_1977
theorem t_244_1975 : e_Sn 244 1975 (e_un n_244_1975) := u_ldIT f_l4_eq (s_iload (i := .iload 4) (len := 2) hq_244 (by decide +kernel) rfl (.inl ⟨rfl, rfl⟩) : e_Sn 244 1975 (o_load e_okI 4 1977)) t_244_1977
noncomputable def n_244_1974 : e_Y := u_ld f_okA f_l0 n_244_1975
theorem t_244_1974 : e_Sn 244 1974 (e_un n_244_1974) := u_ldAT f_l0_eq (s_aload (i := .aload_n 0) (len := 1) hq_244 (by decide +kernel) rfl (.inr ⟨0, rfl, rfl, rfl⟩) : e_Sn 244 1974 (o_load e_okR 0 1975)) t_244_1975
noncomputable def n_244_1973 : e_Y := u_ld f_okA f_l2 n_244_1974
theorem t_244_1973 : e_Sn 244 1973 (e_un n_244_1973) := u_ldAT f_l2_eq (s_aload (i := .aload_n 2) (len := 1) hq_244 (by decide +kernel) rfl (.inr ⟨2, rfl, rfl, rfl⟩) : e_Sn 244 1973 (o_load e_okR 2 1974)) t_244_1974
noncomputable def n_244_1971 : e_Y := u_st f_okI f_s5 n_244_1973
theorem t_244_1971 : e_Sn 244 1971 (e_un n_244_1971) := u_stIT (fun _ _ _ => f_s5_eq) (s_istore (i := .istore 5) (len := 2) hq_244 (by decide +kernel) rfl (.inl ⟨rfl, rfl⟩) : e_Sn 244 1971 (o_store e_okI 5 1973)) t_244_1973
noncomputable def n_244_1968 : e_Y := u_callS 127 4 23 3 n_127_0 n_244_1971
theorem t_244_1968 : e_Sn 244 1968 (e_un n_244_1968) := u_callST rfl (s_callSW (index := 226) hq_244 ho_244 hy_127 hp_127 hc_127 hi_127 hd_127 (List.mem_of_getElem? (i := 1716) (by decide +kernel)) hs_127 (by decide +kernel) rfl : e_Sn 244 1968 (o_callS 127 4 3 1971)) t_127_0 t_244_1971
noncomputable def n_244_1967 : e_Y := u_ld f_okA f_l3 n_244_1968
theorem t_244_1967 : e_Sn 244 1967 (e_un n_244_1967) := u_ldAT f_l3_eq (s_aload (i := .aload_n 3) (len := 1) hq_244 (by decide +kernel) rfl (.inr ⟨3, rfl, rfl, rfl⟩) : e_Sn 244 1967 (o_load e_okR 3 1968)) t_244_1968
noncomputable def n_244_1966 : e_Y := u_ald 0 (u_old (o_ald e_fcs 1967) n_244_1967) n_244_1967
theorem t_244_1966 : e_Sn 244 1966 (e_un n_244_1966) := u_aldT (s_iald hq_244 (by decide +kernel) rfl : e_Sn 244 1966 (o_ald e_fcs 1967)) t_244_1967
noncomputable def n_244_1965 : e_Y := u_bin a_iadd (u_old (o_iadd 1966) n_244_1966) n_244_1966
theorem t_244_1965 : e_Sn 244 1965 (e_un n_244_1965) := u_iaddT (s_iadd hq_244 (by decide +kernel) rfl : e_Sn 244 1965 (o_iadd 1966)) t_244_1966
noncomputable def n_244_1964 : e_Y := u_push (.inl 2147483649) n_244_1965
theorem t_244_1964 : e_Sn 244 1964 (e_un n_244_1964) := u_pushT (s_iconst (n := (1)) hq_244 (by decide +kernel) rfl ⟨by decide +kernel, by decide +kernel⟩ : e_Sn 244 1964 (o_push (.inl 2147483649) 1965)) t_244_1965
noncomputable def n_244_1962 : e_Y := u_ld f_okI f_l4 n_244_1964
theorem t_244_1962 : e_Sn 244 1962 (e_un n_244_1962) := u_ldIT f_l4_eq (s_iload (i := .iload 4) (len := 2) hq_244 (by decide +kernel) rfl (.inl ⟨rfl, rfl⟩) : e_Sn 244 1962 (o_load e_okI 4 1964)) t_244_1964
noncomputable def n_244_1961 : e_Y := u_ld f_okA f_l0 n_244_1962
theorem t_244_1961 : e_Sn 244 1961 (e_un n_244_1961) := u_ldAT f_l0_eq (s_aload (i := .aload_n 0) (len := 1) hq_244 (by decide +kernel) rfl (.inr ⟨0, rfl, rfl, rfl⟩) : e_Sn 244 1961 (o_load e_okR 0 1962)) t_244_1962
noncomputable def n_244_1960 : e_Y := u_ld f_okA f_l1 n_244_1961
theorem t_244_1960 : e_Sn 244 1960 (e_un n_244_1960) := u_ldAT f_l1_eq (s_aload (i := .aload_n 1) (len := 1) hq_244 (by decide +kernel) rfl (.inr ⟨1, rfl, rfl, rfl⟩) : e_Sn 244 1960 (o_load e_okR 1 1961)) t_244_1961
noncomputable def n_244_1957 : e_Y := n_244_2235
theorem t_244_1957 : e_Sn 244 1957 (e_un n_244_1957) := u_gotoT (s_goto (off := (278)) hq_244 (by decide +kernel) rfl : e_Sn 244 1957 (o_goto 2235)) t_244_2235
noncomputable def n_244_1952 : e_Y := u_if y_ne0 (u_old2 (o_ifeq 1957 1955) 1957 n_244_1957 (u_at 1955)) n_244_1957 (u_at 1955)
theorem t_244_1952 : e_Sn 244 1952 (e_un n_244_1952) := u_ifeqT rfl (s_ifeq (off := (5)) hq_244 (by decide +kernel) rfl rfl : e_Sn 244 1952 (o_ifeq 1957 1955)) t_244_1957 u_atT
noncomputable def n_244_1951 : e_Y := u_old (o_lcmp 1952) n_244_1952
theorem t_244_1951 : e_Sn 244 1951 (e_un n_244_1951) := u_oldT (s_lcmp hq_244 (by decide +kernel) rfl : e_Sn 244 1951 (o_lcmp 1952)) t_244_1952 e_cg_lcmp
noncomputable def n_244_1947 : e_Y := n_244_1951
theorem t_244_1947 : e_Sn 244 1947 (e_un n_244_1947) := u_gotoT (s_goto (off := (4)) hq_244 (by decide +kernel) rfl : e_Sn 244 1947 (o_goto 1951)) t_244_1951
noncomputable def n_244_1946 : e_Y := u_push (e_L 9223372036854775809) n_244_1947
theorem t_244_1946 : e_Sn 244 1946 (e_un n_244_1946) := u_pushT (s_lconst (n := 1) hq_244 (by decide +kernel) rfl ⟨by decide +kernel, by decide +kernel⟩ : e_Sn 244 1946 (o_push (e_L 9223372036854775809) 1947)) t_244_1947
noncomputable def n_244_1943 : e_Y := u_if y_ne0 (u_old2 (o_ifeq 1950 1946) 1950 (u_at 1950) n_244_1946) (u_at 1950) n_244_1946
theorem t_244_1943 : e_Sn 244 1943 (e_un n_244_1943) := u_ifeqT rfl (s_ifeq (off := (7)) hq_244 (by decide +kernel) rfl rfl : e_Sn 244 1943 (o_ifeq 1950 1946)) u_atT t_244_1946
noncomputable def n_244_1941 : e_Y := u_ld f_okI f_l6 n_244_1943
theorem t_244_1941 : e_Sn 244 1941 (e_un n_244_1941) := u_ldIT f_l6_eq (s_iload (i := .iload 6) (len := 2) hq_244 (by decide +kernel) rfl (.inl ⟨rfl, rfl⟩) : e_Sn 244 1941 (o_load e_okI 6 1943)) t_244_1943
noncomputable def n_244_1940 : e_Y := u_ald 2 (u_old (o_aldO 2 1941) n_244_1941) n_244_1941
theorem t_244_1940 : e_Sn 244 1940 (e_un n_244_1940) := u_aldOT (s_lald hq_244 (by decide +kernel) rfl : e_Sn 244 1940 (o_aldO 2 1941)) t_244_1941
noncomputable def n_244_1939 : e_Y := u_push (.inl 2147483648) n_244_1940
theorem t_244_1939 : e_Sn 244 1939 (e_un n_244_1939) := u_pushT (s_iconst (n := (0)) hq_244 (by decide +kernel) rfl ⟨by decide +kernel, by decide +kernel⟩ : e_Sn 244 1939 (o_push (.inl 2147483648) 1940)) t_244_1940
noncomputable def n_244_1938 : e_Y := u_ld f_okA f_l3 n_244_1939
theorem t_244_1938 : e_Sn 244 1938 (e_un n_244_1938) := u_ldAT f_l3_eq (s_aload (i := .aload_n 3) (len := 1) hq_244 (by decide +kernel) rfl (.inr ⟨3, rfl, rfl, rfl⟩) : e_Sn 244 1938 (o_load e_okR 3 1939)) t_244_1939
noncomputable def n_244_1935 : e_Y := u_if y_ne0 (u_old2 (o_ifeq 1938 1957) 1938 n_244_1938 n_244_1957) n_244_1938 n_244_1957
theorem t_244_1935 : e_Sn 244 1935 (e_un n_244_1935) := u_ifeqT rfl (s_ifne (off := (22)) hq_244 (by decide +kernel) rfl rfl : e_Sn 244 1935 (o_ifeq 1938 1957)) t_244_1938 t_244_1957
noncomputable def n_244_1933 : e_Y := u_ld f_okI f_l5 n_244_1935
theorem t_244_1933 : e_Sn 244 1933 (e_un n_244_1933) := u_ldIT f_l5_eq (s_iload (i := .iload 5) (len := 2) hq_244 (by decide +kernel) rfl (.inl ⟨rfl, rfl⟩) : e_Sn 244 1933 (o_load e_okI 5 1935)) t_244_1935
noncomputable def n_244_1928 : e_Y := u_jmp y_ne (u_old2 (o_ceq 1933 1931) 1933 n_244_1933 (u_at 1931)) n_244_1933 (u_at 1931)
theorem t_244_1928 : e_Sn 244 1928 (e_un n_244_1928) := u_ceqT rfl (s_ceq (off := (5)) hq_244 (by decide +kernel) rfl rfl : e_Sn 244 1928 (o_ceq 1933 1931)) t_244_1933 u_atT
noncomputable def n_244_1926 : e_Y := u_ld f_okI f_l5 n_244_1928
theorem t_244_1926 : e_Sn 244 1926 (e_un n_244_1926) := u_ldIT f_l5_eq (s_iload (i := .iload 5) (len := 2) hq_244 (by decide +kernel) rfl (.inl ⟨rfl, rfl⟩) : e_Sn 244 1926 (o_load e_okI 5 1928)) t_244_1928
noncomputable def n_244_1923 : e_Y := u_callV 12 199 1 20 1 n_199_0 n_244_1926
theorem t_244_1923 : e_Sn 244 1923 (e_un n_244_1923) := u_callVT rfl (s_callV (ci := 12) (C := er_12) (T := et_12) (N := 5) (index := 117) hq_244 ho_244 hy_199 hp_199 hc_199 hi_199 hd_199 (List.mem_of_getElem? (i := 1974) (by decide +kernel)) hs_199 (List.mem_of_getElem? (i := 1976) (by decide +kernel)) rfl (by decide +kernel) rfl : e_Sn 244 1923 (o_callV (e_s1 12 199 1) 1 1926)) t_199_0 t_244_1926
noncomputable def n_244_1922 : e_Y := u_ld f_okA f_l2 n_244_1923
theorem t_244_1922 : e_Sn 244 1922 (e_un n_244_1922) := u_ldAT f_l2_eq (s_aload (i := .aload_n 2) (len := 1) hq_244 (by decide +kernel) rfl (.inr ⟨2, rfl, rfl, rfl⟩) : e_Sn 244 1922 (o_load e_okR 2 1923)) t_244_1923
noncomputable def n_244_1920 : e_Y := u_st f_okI f_s6 n_244_1922
theorem t_244_1920 : e_Sn 244 1920 (e_un n_244_1920) := u_stIT (fun _ _ _ => f_s6_eq) (s_istore (i := .istore 6) (len := 2) hq_244 (by decide +kernel) rfl (.inl ⟨rfl, rfl⟩) : e_Sn 244 1920 (o_store e_okI 6 1922)) t_244_1922
noncomputable def n_244_1917 : e_Y := u_callV 12 135 5 24 2 n_135_0 n_244_1920
theorem t_244_1917 : e_Sn 244 1917 (e_un n_244_1917) := u_callVT rfl (s_callV (ci := 12) (C := er_12) (T := et_12) (N := 5) (index := 225) hq_244 ho_244 hy_135 hp_135 hc_135 hi_135 hd_135 (List.mem_of_getElem? (i := 3082) (by decide +kernel)) hs_135 (List.mem_of_getElem? (i := 3084) (by decide +kernel)) rfl (by decide +kernel) rfl : e_Sn 244 1917 (o_callV (e_s1 12 135 5) 2 1920)) t_135_0 t_244_1920
noncomputable def n_244_1916 : e_Y := u_ald 0 (u_old (o_ald e_fcs 1917) n_244_1917) n_244_1917
theorem t_244_1916 : e_Sn 244 1916 (e_un n_244_1916) := u_aldT (s_iald hq_244 (by decide +kernel) rfl : e_Sn 244 1916 (o_ald e_fcs 1917)) t_244_1917
noncomputable def n_244_1915 : e_Y := u_bin a_iadd (u_old (o_iadd 1916) n_244_1916) n_244_1916
theorem t_244_1915 : e_Sn 244 1915 (e_un n_244_1915) := u_iaddT (s_iadd hq_244 (by decide +kernel) rfl : e_Sn 244 1915 (o_iadd 1916)) t_244_1916
noncomputable def n_244_1914 : e_Y := u_push (.inl 2147483649) n_244_1915
theorem t_244_1914 : e_Sn 244 1914 (e_un n_244_1914) := u_pushT (s_iconst (n := (1)) hq_244 (by decide +kernel) rfl ⟨by decide +kernel, by decide +kernel⟩ : e_Sn 244 1914 (o_push (.inl 2147483649) 1915)) t_244_1915
noncomputable def n_244_1912 : e_Y := u_ld f_okI f_l4 n_244_1914
theorem t_244_1912 : e_Sn 244 1912 (e_un n_244_1912) := u_ldIT f_l4_eq (s_iload (i := .iload 4) (len := 2) hq_244 (by decide +kernel) rfl (.inl ⟨rfl, rfl⟩) : e_Sn 244 1912 (o_load e_okI 4 1914)) t_244_1914
noncomputable def n_244_1911 : e_Y := u_ld f_okA f_l0 n_244_1912
theorem t_244_1911 : e_Sn 244 1911 (e_un n_244_1911) := u_ldAT f_l0_eq (s_aload (i := .aload_n 0) (len := 1) hq_244 (by decide +kernel) rfl (.inr ⟨0, rfl, rfl, rfl⟩) : e_Sn 244 1911 (o_load e_okR 0 1912)) t_244_1912
noncomputable def n_244_1910 : e_Y := u_ld f_okA f_l2 n_244_1911
theorem t_244_1910 : e_Sn 244 1910 (e_un n_244_1910) := u_ldAT f_l2_eq (s_aload (i := .aload_n 2) (len := 1) hq_244 (by decide +kernel) rfl (.inr ⟨2, rfl, rfl, rfl⟩) : e_Sn 244 1910 (o_load e_okR 2 1911)) t_244_1911
noncomputable def n_244_1908 : e_Y := u_st f_okI f_s5 n_244_1910
theorem t_244_1908 : e_Sn 244 1908 (e_un n_244_1908) := u_stIT (fun _ _ _ => f_s5_eq) (s_istore (i := .istore 5) (len := 2) hq_244 (by decide +kernel) rfl (.inl ⟨rfl, rfl⟩) : e_Sn 244 1908 (o_store e_okI 5 1910)) t_244_1910
noncomputable def n_244_1905 : e_Y := u_callS 104 4 23 3 n_104_0 n_244_1908
theorem t_244_1905 : e_Sn 244 1905 (e_un n_244_1905) := u_callST rfl (s_callSW (index := 223) hq_244 ho_244 hy_104 hp_104 hc_104 hi_104 hd_104 (List.mem_of_getElem? (i := 1708) (by decide +kernel)) hs_104 (by decide +kernel) rfl : e_Sn 244 1905 (o_callS 104 4 3 1908)) t_104_0 t_244_1908
noncomputable def n_244_1904 : e_Y := u_ld f_okA f_l3 n_244_1905
theorem t_244_1904 : e_Sn 244 1904 (e_un n_244_1904) := u_ldAT f_l3_eq (s_aload (i := .aload_n 3) (len := 1) hq_244 (by decide +kernel) rfl (.inr ⟨3, rfl, rfl, rfl⟩) : e_Sn 244 1904 (o_load e_okR 3 1905)) t_244_1905
noncomputable def n_244_1903 : e_Y := u_ald 0 (u_old (o_ald e_fcs 1904) n_244_1904) n_244_1904
theorem t_244_1903 : e_Sn 244 1903 (e_un n_244_1903) := u_aldT (s_iald hq_244 (by decide +kernel) rfl : e_Sn 244 1903 (o_ald e_fcs 1904)) t_244_1904
noncomputable def n_244_1902 : e_Y := u_bin a_iadd (u_old (o_iadd 1903) n_244_1903) n_244_1903
theorem t_244_1902 : e_Sn 244 1902 (e_un n_244_1902) := u_iaddT (s_iadd hq_244 (by decide +kernel) rfl : e_Sn 244 1902 (o_iadd 1903)) t_244_1903
noncomputable def n_244_1901 : e_Y := u_push (.inl 2147483649) n_244_1902
theorem t_244_1901 : e_Sn 244 1901 (e_un n_244_1901) := u_pushT (s_iconst (n := (1)) hq_244 (by decide +kernel) rfl ⟨by decide +kernel, by decide +kernel⟩ : e_Sn 244 1901 (o_push (.inl 2147483649) 1902)) t_244_1902
noncomputable def n_244_1899 : e_Y := u_ld f_okI f_l4 n_244_1901
theorem t_244_1899 : e_Sn 244 1899 (e_un n_244_1899) := u_ldIT f_l4_eq (s_iload (i := .iload 4) (len := 2) hq_244 (by decide +kernel) rfl (.inl ⟨rfl, rfl⟩) : e_Sn 244 1899 (o_load e_okI 4 1901)) t_244_1901
noncomputable def n_244_1898 : e_Y := u_ld f_okA f_l0 n_244_1899
theorem t_244_1898 : e_Sn 244 1898 (e_un n_244_1898) := u_ldAT f_l0_eq (s_aload (i := .aload_n 0) (len := 1) hq_244 (by decide +kernel) rfl (.inr ⟨0, rfl, rfl, rfl⟩) : e_Sn 244 1898 (o_load e_okR 0 1899)) t_244_1899
noncomputable def n_244_1897 : e_Y := u_ld f_okA f_l1 n_244_1898
theorem t_244_1897 : e_Sn 244 1897 (e_un n_244_1897) := u_ldAT f_l1_eq (s_aload (i := .aload_n 1) (len := 1) hq_244 (by decide +kernel) rfl (.inr ⟨1, rfl, rfl, rfl⟩) : e_Sn 244 1897 (o_load e_okR 1 1898)) t_244_1898
noncomputable def n_244_1894 : e_Y := n_244_2235
theorem t_244_1894 : e_Sn 244 1894 (e_un n_244_1894) := u_gotoT (s_goto (off := (341)) hq_244 (by decide +kernel) rfl : e_Sn 244 1894 (o_goto 2235)) t_244_2235
noncomputable def n_244_1889 : e_Y := u_if y_ne0 (u_old2 (o_ifeq 1894 1892) 1894 n_244_1894 (u_at 1892)) n_244_1894 (u_at 1892)
theorem t_244_1889 : e_Sn 244 1889 (e_un n_244_1889) := u_ifeqT rfl (s_ifeq (off := (5)) hq_244 (by decide +kernel) rfl rfl : e_Sn 244 1889 (o_ifeq 1894 1892)) t_244_1894 u_atT
noncomputable def n_244_1888 : e_Y := u_old (o_lcmp 1889) n_244_1889
theorem t_244_1888 : e_Sn 244 1888 (e_un n_244_1888) := u_oldT (s_lcmp hq_244 (by decide +kernel) rfl : e_Sn 244 1888 (o_lcmp 1889)) t_244_1889 e_cg_lcmp
noncomputable def n_244_1887 : e_Y := u_old (o_i2l 1888) n_244_1888
theorem t_244_1887 : e_Sn 244 1887 (e_un n_244_1887) := u_oldT (s_i2l hq_244 (by decide +kernel) rfl : e_Sn 244 1887 (o_i2l 1888)) t_244_1888 e_congr_i2l
noncomputable def n_244_1885 : e_Y := u_ld f_okI f_l6 n_244_1887
theorem t_244_1885 : e_Sn 244 1885 (e_un n_244_1885) := u_ldIT f_l6_eq (s_iload (i := .iload 6) (len := 2) hq_244 (by decide +kernel) rfl (.inl ⟨rfl, rfl⟩) : e_Sn 244 1885 (o_load e_okI 6 1887)) t_244_1887
noncomputable def n_244_1884 : e_Y := u_ald 2 (u_old (o_aldO 2 1885) n_244_1885) n_244_1885
theorem t_244_1884 : e_Sn 244 1884 (e_un n_244_1884) := u_aldOT (s_lald hq_244 (by decide +kernel) rfl : e_Sn 244 1884 (o_aldO 2 1885)) t_244_1885
noncomputable def n_244_1883 : e_Y := u_push (.inl 2147483648) n_244_1884
theorem t_244_1883 : e_Sn 244 1883 (e_un n_244_1883) := u_pushT (s_iconst (n := (0)) hq_244 (by decide +kernel) rfl ⟨by decide +kernel, by decide +kernel⟩ : e_Sn 244 1883 (o_push (.inl 2147483648) 1884)) t_244_1884
noncomputable def n_244_1882 : e_Y := u_ld f_okA f_l3 n_244_1883
theorem t_244_1882 : e_Sn 244 1882 (e_un n_244_1882) := u_ldAT f_l3_eq (s_aload (i := .aload_n 3) (len := 1) hq_244 (by decide +kernel) rfl (.inr ⟨3, rfl, rfl, rfl⟩) : e_Sn 244 1882 (o_load e_okR 3 1883)) t_244_1883
noncomputable def n_244_1879 : e_Y := u_if y_ne0 (u_old2 (o_ifeq 1882 1894) 1882 n_244_1882 n_244_1894) n_244_1882 n_244_1894
theorem t_244_1879 : e_Sn 244 1879 (e_un n_244_1879) := u_ifeqT rfl (s_ifne (off := (15)) hq_244 (by decide +kernel) rfl rfl : e_Sn 244 1879 (o_ifeq 1882 1894)) t_244_1882 t_244_1894
noncomputable def n_244_1877 : e_Y := u_ld f_okI f_l5 n_244_1879
theorem t_244_1877 : e_Sn 244 1877 (e_un n_244_1877) := u_ldIT f_l5_eq (s_iload (i := .iload 5) (len := 2) hq_244 (by decide +kernel) rfl (.inl ⟨rfl, rfl⟩) : e_Sn 244 1877 (o_load e_okI 5 1879)) t_244_1879
noncomputable def n_244_1872 : e_Y := u_jmp y_ne (u_old2 (o_ceq 1877 1875) 1877 n_244_1877 (u_at 1875)) n_244_1877 (u_at 1875)
theorem t_244_1872 : e_Sn 244 1872 (e_un n_244_1872) := u_ceqT rfl (s_ceq (off := (5)) hq_244 (by decide +kernel) rfl rfl : e_Sn 244 1872 (o_ceq 1877 1875)) t_244_1877 u_atT
noncomputable def n_244_1870 : e_Y := u_ld f_okI f_l5 n_244_1872
theorem t_244_1870 : e_Sn 244 1870 (e_un n_244_1870) := u_ldIT f_l5_eq (s_iload (i := .iload 5) (len := 2) hq_244 (by decide +kernel) rfl (.inl ⟨rfl, rfl⟩) : e_Sn 244 1870 (o_load e_okI 5 1872)) t_244_1872
noncomputable def n_244_1867 : e_Y := u_callV 12 199 1 20 1 n_199_0 n_244_1870
theorem t_244_1867 : e_Sn 244 1867 (e_un n_244_1867) := u_callVT rfl (s_callV (ci := 12) (C := er_12) (T := et_12) (N := 5) (index := 117) hq_244 ho_244 hy_199 hp_199 hc_199 hi_199 hd_199 (List.mem_of_getElem? (i := 1974) (by decide +kernel)) hs_199 (List.mem_of_getElem? (i := 1976) (by decide +kernel)) rfl (by decide +kernel) rfl : e_Sn 244 1867 (o_callV (e_s1 12 199 1) 1 1870)) t_199_0 t_244_1870
noncomputable def n_244_1866 : e_Y := u_ld f_okA f_l2 n_244_1867
theorem t_244_1866 : e_Sn 244 1866 (e_un n_244_1866) := u_ldAT f_l2_eq (s_aload (i := .aload_n 2) (len := 1) hq_244 (by decide +kernel) rfl (.inr ⟨2, rfl, rfl, rfl⟩) : e_Sn 244 1866 (o_load e_okR 2 1867)) t_244_1867
noncomputable def n_244_1864 : e_Y := u_st f_okI f_s6 n_244_1866
theorem t_244_1864 : e_Sn 244 1864 (e_un n_244_1864) := u_stIT (fun _ _ _ => f_s6_eq) (s_istore (i := .istore 6) (len := 2) hq_244 (by decide +kernel) rfl (.inl ⟨rfl, rfl⟩) : e_Sn 244 1864 (o_store e_okI 6 1866)) t_244_1866
noncomputable def n_244_1861 : e_Y := u_callV 12 142 2 21 2 n_142_0 n_244_1864
theorem t_244_1861 : e_Sn 244 1861 (e_un n_244_1861) := u_callVT rfl (s_callV (ci := 12) (C := er_12) (T := et_12) (N := 5) (index := 222) hq_244 ho_244 hy_142 hp_142 hc_142 hi_142 hd_142 (List.mem_of_getElem? (i := 3075) (by decide +kernel)) hs_142 (List.mem_of_getElem? (i := 3077) (by decide +kernel)) rfl (by decide +kernel) rfl : e_Sn 244 1861 (o_callV (e_s1 12 142 2) 2 1864)) t_142_0 t_244_1864
noncomputable def n_244_1860 : e_Y := u_ald 0 (u_old (o_ald e_fcs 1861) n_244_1861) n_244_1861
theorem t_244_1860 : e_Sn 244 1860 (e_un n_244_1860) := u_aldT (s_iald hq_244 (by decide +kernel) rfl : e_Sn 244 1860 (o_ald e_fcs 1861)) t_244_1861
noncomputable def n_244_1859 : e_Y := u_bin a_iadd (u_old (o_iadd 1860) n_244_1860) n_244_1860
theorem t_244_1859 : e_Sn 244 1859 (e_un n_244_1859) := u_iaddT (s_iadd hq_244 (by decide +kernel) rfl : e_Sn 244 1859 (o_iadd 1860)) t_244_1860
noncomputable def n_244_1858 : e_Y := u_push (.inl 2147483649) n_244_1859
theorem t_244_1858 : e_Sn 244 1858 (e_un n_244_1858) := u_pushT (s_iconst (n := (1)) hq_244 (by decide +kernel) rfl ⟨by decide +kernel, by decide +kernel⟩ : e_Sn 244 1858 (o_push (.inl 2147483649) 1859)) t_244_1859
noncomputable def n_244_1856 : e_Y := u_ld f_okI f_l4 n_244_1858
theorem t_244_1856 : e_Sn 244 1856 (e_un n_244_1856) := u_ldIT f_l4_eq (s_iload (i := .iload 4) (len := 2) hq_244 (by decide +kernel) rfl (.inl ⟨rfl, rfl⟩) : e_Sn 244 1856 (o_load e_okI 4 1858)) t_244_1858
noncomputable def n_244_1855 : e_Y := u_ld f_okA f_l0 n_244_1856
theorem t_244_1855 : e_Sn 244 1855 (e_un n_244_1855) := u_ldAT f_l0_eq (s_aload (i := .aload_n 0) (len := 1) hq_244 (by decide +kernel) rfl (.inr ⟨0, rfl, rfl, rfl⟩) : e_Sn 244 1855 (o_load e_okR 0 1856)) t_244_1856
noncomputable def n_244_1854 : e_Y := u_ld f_okA f_l2 n_244_1855
theorem t_244_1854 : e_Sn 244 1854 (e_un n_244_1854) := u_ldAT f_l2_eq (s_aload (i := .aload_n 2) (len := 1) hq_244 (by decide +kernel) rfl (.inr ⟨2, rfl, rfl, rfl⟩) : e_Sn 244 1854 (o_load e_okR 2 1855)) t_244_1855
noncomputable def n_244_1852 : e_Y := u_st f_okI f_s5 n_244_1854
theorem t_244_1852 : e_Sn 244 1852 (e_un n_244_1852) := u_stIT (fun _ _ _ => f_s5_eq) (s_istore (i := .istore 5) (len := 2) hq_244 (by decide +kernel) rfl (.inl ⟨rfl, rfl⟩) : e_Sn 244 1852 (o_store e_okI 5 1854)) t_244_1854
noncomputable def n_244_1849 : e_Y := u_callS 106 4 23 3 n_106_0 n_244_1852
theorem t_244_1849 : e_Sn 244 1849 (e_un n_244_1849) := u_callST rfl (s_callSW (index := 220) hq_244 ho_244 hy_106 hp_106 hc_106 hi_106 hd_106 (List.mem_of_getElem? (i := 1704) (by decide +kernel)) hs_106 (by decide +kernel) rfl : e_Sn 244 1849 (o_callS 106 4 3 1852)) t_106_0 t_244_1852
noncomputable def n_244_1848 : e_Y := u_ld f_okA f_l3 n_244_1849
theorem t_244_1848 : e_Sn 244 1848 (e_un n_244_1848) := u_ldAT f_l3_eq (s_aload (i := .aload_n 3) (len := 1) hq_244 (by decide +kernel) rfl (.inr ⟨3, rfl, rfl, rfl⟩) : e_Sn 244 1848 (o_load e_okR 3 1849)) t_244_1849
noncomputable def n_244_1847 : e_Y := u_ald 0 (u_old (o_ald e_fcs 1848) n_244_1848) n_244_1848
theorem t_244_1847 : e_Sn 244 1847 (e_un n_244_1847) := u_aldT (s_iald hq_244 (by decide +kernel) rfl : e_Sn 244 1847 (o_ald e_fcs 1848)) t_244_1848
noncomputable def n_244_1846 : e_Y := u_bin a_iadd (u_old (o_iadd 1847) n_244_1847) n_244_1847
theorem t_244_1846 : e_Sn 244 1846 (e_un n_244_1846) := u_iaddT (s_iadd hq_244 (by decide +kernel) rfl : e_Sn 244 1846 (o_iadd 1847)) t_244_1847
noncomputable def n_244_1845 : e_Y := u_push (.inl 2147483649) n_244_1846
theorem t_244_1845 : e_Sn 244 1845 (e_un n_244_1845) := u_pushT (s_iconst (n := (1)) hq_244 (by decide +kernel) rfl ⟨by decide +kernel, by decide +kernel⟩ : e_Sn 244 1845 (o_push (.inl 2147483649) 1846)) t_244_1846
noncomputable def n_244_1843 : e_Y := u_ld f_okI f_l4 n_244_1845
theorem t_244_1843 : e_Sn 244 1843 (e_un n_244_1843) := u_ldIT f_l4_eq (s_iload (i := .iload 4) (len := 2) hq_244 (by decide +kernel) rfl (.inl ⟨rfl, rfl⟩) : e_Sn 244 1843 (o_load e_okI 4 1845)) t_244_1845
noncomputable def n_244_1842 : e_Y := u_ld f_okA f_l0 n_244_1843
theorem t_244_1842 : e_Sn 244 1842 (e_un n_244_1842) := u_ldAT f_l0_eq (s_aload (i := .aload_n 0) (len := 1) hq_244 (by decide +kernel) rfl (.inr ⟨0, rfl, rfl, rfl⟩) : e_Sn 244 1842 (o_load e_okR 0 1843)) t_244_1843
noncomputable def n_244_1841 : e_Y := u_ld f_okA f_l1 n_244_1842
theorem t_244_1841 : e_Sn 244 1841 (e_un n_244_1841) := u_ldAT f_l1_eq (s_aload (i := .aload_n 1) (len := 1) hq_244 (by decide +kernel) rfl (.inr ⟨1, rfl, rfl, rfl⟩) : e_Sn 244 1841 (o_load e_okR 1 1842)) t_244_1842
noncomputable def n_244_1838 : e_Y := n_244_2235
theorem t_244_1838 : e_Sn 244 1838 (e_un n_244_1838) := u_gotoT (s_goto (off := (397)) hq_244 (by decide +kernel) rfl : e_Sn 244 1838 (o_goto 2235)) t_244_2235
noncomputable def n_244_1833 : e_Y := u_if y_ne0 (u_old2 (o_ifeq 1838 1836) 1838 n_244_1838 (u_at 1836)) n_244_1838 (u_at 1836)
theorem t_244_1833 : e_Sn 244 1833 (e_un n_244_1833) := u_ifeqT rfl (s_ifeq (off := (5)) hq_244 (by decide +kernel) rfl rfl : e_Sn 244 1833 (o_ifeq 1838 1836)) t_244_1838 u_atT
noncomputable def n_244_1832 : e_Y := u_old (o_lcmp 1833) n_244_1833
theorem t_244_1832 : e_Sn 244 1832 (e_un n_244_1832) := u_oldT (s_lcmp hq_244 (by decide +kernel) rfl : e_Sn 244 1832 (o_lcmp 1833)) t_244_1833 e_cg_lcmp
noncomputable def n_244_1831 : e_Y := u_old (o_i2l 1832) n_244_1832
theorem t_244_1831 : e_Sn 244 1831 (e_un n_244_1831) := u_oldT (s_i2l hq_244 (by decide +kernel) rfl : e_Sn 244 1831 (o_i2l 1832)) t_244_1832 e_congr_i2l
noncomputable def n_244_1829 : e_Y := u_ld f_okI f_l6 n_244_1831
theorem t_244_1829 : e_Sn 244 1829 (e_un n_244_1829) := u_ldIT f_l6_eq (s_iload (i := .iload 6) (len := 2) hq_244 (by decide +kernel) rfl (.inl ⟨rfl, rfl⟩) : e_Sn 244 1829 (o_load e_okI 6 1831)) t_244_1831
noncomputable def n_244_1828 : e_Y := u_ald 2 (u_old (o_aldO 2 1829) n_244_1829) n_244_1829
theorem t_244_1828 : e_Sn 244 1828 (e_un n_244_1828) := u_aldOT (s_lald hq_244 (by decide +kernel) rfl : e_Sn 244 1828 (o_aldO 2 1829)) t_244_1829
noncomputable def n_244_1827 : e_Y := u_push (.inl 2147483648) n_244_1828
theorem t_244_1827 : e_Sn 244 1827 (e_un n_244_1827) := u_pushT (s_iconst (n := (0)) hq_244 (by decide +kernel) rfl ⟨by decide +kernel, by decide +kernel⟩ : e_Sn 244 1827 (o_push (.inl 2147483648) 1828)) t_244_1828
noncomputable def n_244_1826 : e_Y := u_ld f_okA f_l3 n_244_1827
theorem t_244_1826 : e_Sn 244 1826 (e_un n_244_1826) := u_ldAT f_l3_eq (s_aload (i := .aload_n 3) (len := 1) hq_244 (by decide +kernel) rfl (.inr ⟨3, rfl, rfl, rfl⟩) : e_Sn 244 1826 (o_load e_okR 3 1827)) t_244_1827
noncomputable def n_244_1823 : e_Y := u_if y_ne0 (u_old2 (o_ifeq 1826 1838) 1826 n_244_1826 n_244_1838) n_244_1826 n_244_1838
theorem t_244_1823 : e_Sn 244 1823 (e_un n_244_1823) := u_ifeqT rfl (s_ifne (off := (15)) hq_244 (by decide +kernel) rfl rfl : e_Sn 244 1823 (o_ifeq 1826 1838)) t_244_1826 t_244_1838
noncomputable def n_244_1821 : e_Y := u_ld f_okI f_l5 n_244_1823
theorem t_244_1821 : e_Sn 244 1821 (e_un n_244_1821) := u_ldIT f_l5_eq (s_iload (i := .iload 5) (len := 2) hq_244 (by decide +kernel) rfl (.inl ⟨rfl, rfl⟩) : e_Sn 244 1821 (o_load e_okI 5 1823)) t_244_1823
noncomputable def n_244_1816 : e_Y := u_jmp y_ne (u_old2 (o_ceq 1821 1819) 1821 n_244_1821 (u_at 1819)) n_244_1821 (u_at 1819)
theorem t_244_1816 : e_Sn 244 1816 (e_un n_244_1816) := u_ceqT rfl (s_ceq (off := (5)) hq_244 (by decide +kernel) rfl rfl : e_Sn 244 1816 (o_ceq 1821 1819)) t_244_1821 u_atT
noncomputable def n_244_1814 : e_Y := u_ld f_okI f_l5 n_244_1816
theorem t_244_1814 : e_Sn 244 1814 (e_un n_244_1814) := u_ldIT f_l5_eq (s_iload (i := .iload 5) (len := 2) hq_244 (by decide +kernel) rfl (.inl ⟨rfl, rfl⟩) : e_Sn 244 1814 (o_load e_okI 5 1816)) t_244_1816
noncomputable def n_244_1811 : e_Y := u_callV 12 199 1 20 1 n_199_0 n_244_1814
theorem t_244_1811 : e_Sn 244 1811 (e_un n_244_1811) := u_callVT rfl (s_callV (ci := 12) (C := er_12) (T := et_12) (N := 5) (index := 117) hq_244 ho_244 hy_199 hp_199 hc_199 hi_199 hd_199 (List.mem_of_getElem? (i := 1974) (by decide +kernel)) hs_199 (List.mem_of_getElem? (i := 1976) (by decide +kernel)) rfl (by decide +kernel) rfl : e_Sn 244 1811 (o_callV (e_s1 12 199 1) 1 1814)) t_199_0 t_244_1814
noncomputable def n_244_1810 : e_Y := u_ld f_okA f_l2 n_244_1811
theorem t_244_1810 : e_Sn 244 1810 (e_un n_244_1810) := u_ldAT f_l2_eq (s_aload (i := .aload_n 2) (len := 1) hq_244 (by decide +kernel) rfl (.inr ⟨2, rfl, rfl, rfl⟩) : e_Sn 244 1810 (o_load e_okR 2 1811)) t_244_1811
noncomputable def n_244_1808 : e_Y := u_st f_okI f_s6 n_244_1810
theorem t_244_1808 : e_Sn 244 1808 (e_un n_244_1808) := u_stIT (fun _ _ _ => f_s6_eq) (s_istore (i := .istore 6) (len := 2) hq_244 (by decide +kernel) rfl (.inl ⟨rfl, rfl⟩) : e_Sn 244 1808 (o_store e_okI 6 1810)) t_244_1810
noncomputable def n_244_1805 : e_Y := u_callV 12 189 3 22 3 n_189_0 n_244_1808
theorem t_244_1805 : e_Sn 244 1805 (e_un n_244_1805) := u_callVT rfl (s_callV (ci := 12) (C := er_12) (T := et_12) (N := 5) (index := 219) hq_244 ho_244 hy_189 hp_189 hc_189 hi_189 hd_189 (List.mem_of_getElem? (i := 3063) (by decide +kernel)) hs_189 (List.mem_of_getElem? (i := 3065) (by decide +kernel)) rfl (by decide +kernel) rfl : e_Sn 244 1805 (o_callV (e_s1 12 189 3) 3 1808)) t_189_0 t_244_1808
noncomputable def n_244_1804 : e_Y := u_ald 0 (u_old (o_ald e_fcs 1805) n_244_1805) n_244_1805
theorem t_244_1804 : e_Sn 244 1804 (e_un n_244_1804) := u_aldT (s_iald hq_244 (by decide +kernel) rfl : e_Sn 244 1804 (o_ald e_fcs 1805)) t_244_1805
noncomputable def n_244_1803 : e_Y := u_bin a_iadd (u_old (o_iadd 1804) n_244_1804) n_244_1804
theorem t_244_1803 : e_Sn 244 1803 (e_un n_244_1803) := u_iaddT (s_iadd hq_244 (by decide +kernel) rfl : e_Sn 244 1803 (o_iadd 1804)) t_244_1804
noncomputable def n_244_1802 : e_Y := u_push (.inl 2147483650) n_244_1803
theorem t_244_1802 : e_Sn 244 1802 (e_un n_244_1802) := u_pushT (s_iconst (n := (2)) hq_244 (by decide +kernel) rfl ⟨by decide +kernel, by decide +kernel⟩ : e_Sn 244 1802 (o_push (.inl 2147483650) 1803)) t_244_1803
noncomputable def n_244_1800 : e_Y := u_ld f_okI f_l4 n_244_1802
theorem t_244_1800 : e_Sn 244 1800 (e_un n_244_1800) := u_ldIT f_l4_eq (s_iload (i := .iload 4) (len := 2) hq_244 (by decide +kernel) rfl (.inl ⟨rfl, rfl⟩) : e_Sn 244 1800 (o_load e_okI 4 1802)) t_244_1802
noncomputable def n_244_1799 : e_Y := u_ld f_okA f_l0 n_244_1800
theorem t_244_1799 : e_Sn 244 1799 (e_un n_244_1799) := u_ldAT f_l0_eq (s_aload (i := .aload_n 0) (len := 1) hq_244 (by decide +kernel) rfl (.inr ⟨0, rfl, rfl, rfl⟩) : e_Sn 244 1799 (o_load e_okR 0 1800)) t_244_1800
noncomputable def n_244_1798 : e_Y := u_ald 0 (u_old (o_ald e_fcs 1799) n_244_1799) n_244_1799
theorem t_244_1798 : e_Sn 244 1798 (e_un n_244_1798) := u_aldT (s_iald hq_244 (by decide +kernel) rfl : e_Sn 244 1798 (o_ald e_fcs 1799)) t_244_1799
noncomputable def n_244_1797 : e_Y := u_bin a_iadd (u_old (o_iadd 1798) n_244_1798) n_244_1798
theorem t_244_1797 : e_Sn 244 1797 (e_un n_244_1797) := u_iaddT (s_iadd hq_244 (by decide +kernel) rfl : e_Sn 244 1797 (o_iadd 1798)) t_244_1798
noncomputable def n_244_1796 : e_Y := u_push (.inl 2147483649) n_244_1797
theorem t_244_1796 : e_Sn 244 1796 (e_un n_244_1796) := u_pushT (s_iconst (n := (1)) hq_244 (by decide +kernel) rfl ⟨by decide +kernel, by decide +kernel⟩ : e_Sn 244 1796 (o_push (.inl 2147483649) 1797)) t_244_1797
noncomputable def n_244_1794 : e_Y := u_ld f_okI f_l4 n_244_1796
theorem t_244_1794 : e_Sn 244 1794 (e_un n_244_1794) := u_ldIT f_l4_eq (s_iload (i := .iload 4) (len := 2) hq_244 (by decide +kernel) rfl (.inl ⟨rfl, rfl⟩) : e_Sn 244 1794 (o_load e_okI 4 1796)) t_244_1796
noncomputable def n_244_1793 : e_Y := u_ld f_okA f_l0 n_244_1794
theorem t_244_1793 : e_Sn 244 1793 (e_un n_244_1793) := u_ldAT f_l0_eq (s_aload (i := .aload_n 0) (len := 1) hq_244 (by decide +kernel) rfl (.inr ⟨0, rfl, rfl, rfl⟩) : e_Sn 244 1793 (o_load e_okR 0 1794)) t_244_1794
noncomputable def n_244_1792 : e_Y := u_ld f_okA f_l2 n_244_1793
theorem t_244_1792 : e_Sn 244 1792 (e_un n_244_1792) := u_ldAT f_l2_eq (s_aload (i := .aload_n 2) (len := 1) hq_244 (by decide +kernel) rfl (.inr ⟨2, rfl, rfl, rfl⟩) : e_Sn 244 1792 (o_load e_okR 2 1793)) t_244_1793
noncomputable def n_244_1790 : e_Y := u_st f_okI f_s5 n_244_1792
theorem t_244_1790 : e_Sn 244 1790 (e_un n_244_1790) := u_stIT (fun _ _ _ => f_s5_eq) (s_istore (i := .istore 5) (len := 2) hq_244 (by decide +kernel) rfl (.inl ⟨rfl, rfl⟩) : e_Sn 244 1790 (o_store e_okI 5 1792)) t_244_1792
noncomputable def n_244_1787 : e_Y := u_callS 125 5 24 4 n_125_0 n_244_1790
theorem t_244_1787 : e_Sn 244 1787 (e_un n_244_1787) := u_callST rfl (s_callSW (index := 217) hq_244 ho_244 hy_125 hp_125 hc_125 hi_125 hd_125 (List.mem_of_getElem? (i := 1700) (by decide +kernel)) hs_125 (by decide +kernel) rfl : e_Sn 244 1787 (o_callS 125 5 4 1790)) t_125_0 t_244_1790
noncomputable def n_244_1786 : e_Y := u_ld f_okA f_l3 n_244_1787
theorem t_244_1786 : e_Sn 244 1786 (e_un n_244_1786) := u_ldAT f_l3_eq (s_aload (i := .aload_n 3) (len := 1) hq_244 (by decide +kernel) rfl (.inr ⟨3, rfl, rfl, rfl⟩) : e_Sn 244 1786 (o_load e_okR 3 1787)) t_244_1787
noncomputable def n_244_1785 : e_Y := u_ald 0 (u_old (o_ald e_fcs 1786) n_244_1786) n_244_1786
theorem t_244_1785 : e_Sn 244 1785 (e_un n_244_1785) := u_aldT (s_iald hq_244 (by decide +kernel) rfl : e_Sn 244 1785 (o_ald e_fcs 1786)) t_244_1786
noncomputable def n_244_1784 : e_Y := u_bin a_iadd (u_old (o_iadd 1785) n_244_1785) n_244_1785
theorem t_244_1784 : e_Sn 244 1784 (e_un n_244_1784) := u_iaddT (s_iadd hq_244 (by decide +kernel) rfl : e_Sn 244 1784 (o_iadd 1785)) t_244_1785
noncomputable def n_244_1783 : e_Y := u_push (.inl 2147483650) n_244_1784
theorem t_244_1783 : e_Sn 244 1783 (e_un n_244_1783) := u_pushT (s_iconst (n := (2)) hq_244 (by decide +kernel) rfl ⟨by decide +kernel, by decide +kernel⟩ : e_Sn 244 1783 (o_push (.inl 2147483650) 1784)) t_244_1784
noncomputable def n_244_1781 : e_Y := u_ld f_okI f_l4 n_244_1783
theorem t_244_1781 : e_Sn 244 1781 (e_un n_244_1781) := u_ldIT f_l4_eq (s_iload (i := .iload 4) (len := 2) hq_244 (by decide +kernel) rfl (.inl ⟨rfl, rfl⟩) : e_Sn 244 1781 (o_load e_okI 4 1783)) t_244_1783
noncomputable def n_244_1780 : e_Y := u_ld f_okA f_l0 n_244_1781
theorem t_244_1780 : e_Sn 244 1780 (e_un n_244_1780) := u_ldAT f_l0_eq (s_aload (i := .aload_n 0) (len := 1) hq_244 (by decide +kernel) rfl (.inr ⟨0, rfl, rfl, rfl⟩) : e_Sn 244 1780 (o_load e_okR 0 1781)) t_244_1781
noncomputable def n_244_1779 : e_Y := u_ald 0 (u_old (o_ald e_fcs 1780) n_244_1780) n_244_1780
theorem t_244_1779 : e_Sn 244 1779 (e_un n_244_1779) := u_aldT (s_iald hq_244 (by decide +kernel) rfl : e_Sn 244 1779 (o_ald e_fcs 1780)) t_244_1780
noncomputable def n_244_1778 : e_Y := u_bin a_iadd (u_old (o_iadd 1779) n_244_1779) n_244_1779
theorem t_244_1778 : e_Sn 244 1778 (e_un n_244_1778) := u_iaddT (s_iadd hq_244 (by decide +kernel) rfl : e_Sn 244 1778 (o_iadd 1779)) t_244_1779
noncomputable def n_244_1777 : e_Y := u_push (.inl 2147483649) n_244_1778
theorem t_244_1777 : e_Sn 244 1777 (e_un n_244_1777) := u_pushT (s_iconst (n := (1)) hq_244 (by decide +kernel) rfl ⟨by decide +kernel, by decide +kernel⟩ : e_Sn 244 1777 (o_push (.inl 2147483649) 1778)) t_244_1778
noncomputable def n_244_1775 : e_Y := u_ld f_okI f_l4 n_244_1777
theorem t_244_1775 : e_Sn 244 1775 (e_un n_244_1775) := u_ldIT f_l4_eq (s_iload (i := .iload 4) (len := 2) hq_244 (by decide +kernel) rfl (.inl ⟨rfl, rfl⟩) : e_Sn 244 1775 (o_load e_okI 4 1777)) t_244_1777
noncomputable def n_244_1774 : e_Y := u_ld f_okA f_l0 n_244_1775
theorem t_244_1774 : e_Sn 244 1774 (e_un n_244_1774) := u_ldAT f_l0_eq (s_aload (i := .aload_n 0) (len := 1) hq_244 (by decide +kernel) rfl (.inr ⟨0, rfl, rfl, rfl⟩) : e_Sn 244 1774 (o_load e_okR 0 1775)) t_244_1775
noncomputable def n_244_1773 : e_Y := u_ld f_okA f_l1 n_244_1774
theorem t_244_1773 : e_Sn 244 1773 (e_un n_244_1773) := u_ldAT f_l1_eq (s_aload (i := .aload_n 1) (len := 1) hq_244 (by decide +kernel) rfl (.inr ⟨1, rfl, rfl, rfl⟩) : e_Sn 244 1773 (o_load e_okR 1 1774)) t_244_1774
noncomputable def n_244_1770 : e_Y := n_244_2235
theorem t_244_1770 : e_Sn 244 1770 (e_un n_244_1770) := u_gotoT (s_goto (off := (465)) hq_244 (by decide +kernel) rfl : e_Sn 244 1770 (o_goto 2235)) t_244_2235
noncomputable def n_244_1765 : e_Y := u_if y_ne0 (u_old2 (o_ifeq 1770 1768) 1770 n_244_1770 (u_at 1768)) n_244_1770 (u_at 1768)
theorem t_244_1765 : e_Sn 244 1765 (e_un n_244_1765) := u_ifeqT rfl (s_ifeq (off := (5)) hq_244 (by decide +kernel) rfl rfl : e_Sn 244 1765 (o_ifeq 1770 1768)) t_244_1770 u_atT
noncomputable def n_244_1764 : e_Y := u_old (o_lcmp 1765) n_244_1765
theorem t_244_1764 : e_Sn 244 1764 (e_un n_244_1764) := u_oldT (s_lcmp hq_244 (by decide +kernel) rfl : e_Sn 244 1764 (o_lcmp 1765)) t_244_1765 e_cg_lcmp
noncomputable def n_244_1763 : e_Y := u_old (o_i2l 1764) n_244_1764
theorem t_244_1763 : e_Sn 244 1763 (e_un n_244_1763) := u_oldT (s_i2l hq_244 (by decide +kernel) rfl : e_Sn 244 1763 (o_i2l 1764)) t_244_1764 e_congr_i2l
noncomputable def n_244_1761 : e_Y := u_ld f_okI f_l6 n_244_1763
theorem t_244_1761 : e_Sn 244 1761 (e_un n_244_1761) := u_ldIT f_l6_eq (s_iload (i := .iload 6) (len := 2) hq_244 (by decide +kernel) rfl (.inl ⟨rfl, rfl⟩) : e_Sn 244 1761 (o_load e_okI 6 1763)) t_244_1763
noncomputable def n_244_1760 : e_Y := u_ald 2 (u_old (o_aldO 2 1761) n_244_1761) n_244_1761
theorem t_244_1760 : e_Sn 244 1760 (e_un n_244_1760) := u_aldOT (s_lald hq_244 (by decide +kernel) rfl : e_Sn 244 1760 (o_aldO 2 1761)) t_244_1761
noncomputable def n_244_1759 : e_Y := u_push (.inl 2147483648) n_244_1760
theorem t_244_1759 : e_Sn 244 1759 (e_un n_244_1759) := u_pushT (s_iconst (n := (0)) hq_244 (by decide +kernel) rfl ⟨by decide +kernel, by decide +kernel⟩ : e_Sn 244 1759 (o_push (.inl 2147483648) 1760)) t_244_1760
noncomputable def n_244_1758 : e_Y := u_ld f_okA f_l3 n_244_1759
theorem t_244_1758 : e_Sn 244 1758 (e_un n_244_1758) := u_ldAT f_l3_eq (s_aload (i := .aload_n 3) (len := 1) hq_244 (by decide +kernel) rfl (.inr ⟨3, rfl, rfl, rfl⟩) : e_Sn 244 1758 (o_load e_okR 3 1759)) t_244_1759
noncomputable def n_244_1755 : e_Y := u_if y_ne0 (u_old2 (o_ifeq 1758 1770) 1758 n_244_1758 n_244_1770) n_244_1758 n_244_1770
theorem t_244_1755 : e_Sn 244 1755 (e_un n_244_1755) := u_ifeqT rfl (s_ifne (off := (15)) hq_244 (by decide +kernel) rfl rfl : e_Sn 244 1755 (o_ifeq 1758 1770)) t_244_1758 t_244_1770
noncomputable def n_244_1753 : e_Y := u_ld f_okI f_l5 n_244_1755
theorem t_244_1753 : e_Sn 244 1753 (e_un n_244_1753) := u_ldIT f_l5_eq (s_iload (i := .iload 5) (len := 2) hq_244 (by decide +kernel) rfl (.inl ⟨rfl, rfl⟩) : e_Sn 244 1753 (o_load e_okI 5 1755)) t_244_1755
noncomputable def n_244_1748 : e_Y := u_jmp y_ne (u_old2 (o_ceq 1753 1751) 1753 n_244_1753 (u_at 1751)) n_244_1753 (u_at 1751)
theorem t_244_1748 : e_Sn 244 1748 (e_un n_244_1748) := u_ceqT rfl (s_ceq (off := (5)) hq_244 (by decide +kernel) rfl rfl : e_Sn 244 1748 (o_ceq 1753 1751)) t_244_1753 u_atT
noncomputable def n_244_1746 : e_Y := u_ld f_okI f_l5 n_244_1748
theorem t_244_1746 : e_Sn 244 1746 (e_un n_244_1746) := u_ldIT f_l5_eq (s_iload (i := .iload 5) (len := 2) hq_244 (by decide +kernel) rfl (.inl ⟨rfl, rfl⟩) : e_Sn 244 1746 (o_load e_okI 5 1748)) t_244_1748
noncomputable def n_244_1743 : e_Y := u_callV 12 199 1 20 1 n_199_0 n_244_1746
theorem t_244_1743 : e_Sn 244 1743 (e_un n_244_1743) := u_callVT rfl (s_callV (ci := 12) (C := er_12) (T := et_12) (N := 5) (index := 117) hq_244 ho_244 hy_199 hp_199 hc_199 hi_199 hd_199 (List.mem_of_getElem? (i := 1974) (by decide +kernel)) hs_199 (List.mem_of_getElem? (i := 1976) (by decide +kernel)) rfl (by decide +kernel) rfl : e_Sn 244 1743 (o_callV (e_s1 12 199 1) 1 1746)) t_199_0 t_244_1746
noncomputable def n_244_1742 : e_Y := u_ld f_okA f_l2 n_244_1743
theorem t_244_1742 : e_Sn 244 1742 (e_un n_244_1742) := u_ldAT f_l2_eq (s_aload (i := .aload_n 2) (len := 1) hq_244 (by decide +kernel) rfl (.inr ⟨2, rfl, rfl, rfl⟩) : e_Sn 244 1742 (o_load e_okR 2 1743)) t_244_1743
noncomputable def n_244_1740 : e_Y := u_st f_okI f_s6 n_244_1742
theorem t_244_1740 : e_Sn 244 1740 (e_un n_244_1740) := u_stIT (fun _ _ _ => f_s6_eq) (s_istore (i := .istore 6) (len := 2) hq_244 (by decide +kernel) rfl (.inl ⟨rfl, rfl⟩) : e_Sn 244 1740 (o_store e_okI 6 1742)) t_244_1742
noncomputable def n_244_1737 : e_Y := u_callV 12 146 3 22 3 n_146_0 n_244_1740
theorem t_244_1737 : e_Sn 244 1737 (e_un n_244_1737) := u_callVT rfl (s_callV (ci := 12) (C := er_12) (T := et_12) (N := 5) (index := 216) hq_244 ho_244 hy_146 hp_146 hc_146 hi_146 hd_146 (List.mem_of_getElem? (i := 3056) (by decide +kernel)) hs_146 (List.mem_of_getElem? (i := 3058) (by decide +kernel)) rfl (by decide +kernel) rfl : e_Sn 244 1737 (o_callV (e_s1 12 146 3) 3 1740)) t_146_0 t_244_1740
noncomputable def n_244_1736 : e_Y := u_ald 0 (u_old (o_ald e_fcs 1737) n_244_1737) n_244_1737
theorem t_244_1736 : e_Sn 244 1736 (e_un n_244_1736) := u_aldT (s_iald hq_244 (by decide +kernel) rfl : e_Sn 244 1736 (o_ald e_fcs 1737)) t_244_1737
noncomputable def n_244_1735 : e_Y := u_bin a_iadd (u_old (o_iadd 1736) n_244_1736) n_244_1736
theorem t_244_1735 : e_Sn 244 1735 (e_un n_244_1735) := u_iaddT (s_iadd hq_244 (by decide +kernel) rfl : e_Sn 244 1735 (o_iadd 1736)) t_244_1736
noncomputable def n_244_1734 : e_Y := u_push (.inl 2147483650) n_244_1735
theorem t_244_1734 : e_Sn 244 1734 (e_un n_244_1734) := u_pushT (s_iconst (n := (2)) hq_244 (by decide +kernel) rfl ⟨by decide +kernel, by decide +kernel⟩ : e_Sn 244 1734 (o_push (.inl 2147483650) 1735)) t_244_1735
noncomputable def n_244_1732 : e_Y := u_ld f_okI f_l4 n_244_1734
theorem t_244_1732 : e_Sn 244 1732 (e_un n_244_1732) := u_ldIT f_l4_eq (s_iload (i := .iload 4) (len := 2) hq_244 (by decide +kernel) rfl (.inl ⟨rfl, rfl⟩) : e_Sn 244 1732 (o_load e_okI 4 1734)) t_244_1734
noncomputable def n_244_1731 : e_Y := u_ld f_okA f_l0 n_244_1732
theorem t_244_1731 : e_Sn 244 1731 (e_un n_244_1731) := u_ldAT f_l0_eq (s_aload (i := .aload_n 0) (len := 1) hq_244 (by decide +kernel) rfl (.inr ⟨0, rfl, rfl, rfl⟩) : e_Sn 244 1731 (o_load e_okR 0 1732)) t_244_1732
noncomputable def n_244_1730 : e_Y := u_ald 0 (u_old (o_ald e_fcs 1731) n_244_1731) n_244_1731
theorem t_244_1730 : e_Sn 244 1730 (e_un n_244_1730) := u_aldT (s_iald hq_244 (by decide +kernel) rfl : e_Sn 244 1730 (o_ald e_fcs 1731)) t_244_1731
noncomputable def n_244_1729 : e_Y := u_bin a_iadd (u_old (o_iadd 1730) n_244_1730) n_244_1730
theorem t_244_1729 : e_Sn 244 1729 (e_un n_244_1729) := u_iaddT (s_iadd hq_244 (by decide +kernel) rfl : e_Sn 244 1729 (o_iadd 1730)) t_244_1730
noncomputable def n_244_1728 : e_Y := u_push (.inl 2147483649) n_244_1729
theorem t_244_1728 : e_Sn 244 1728 (e_un n_244_1728) := u_pushT (s_iconst (n := (1)) hq_244 (by decide +kernel) rfl ⟨by decide +kernel, by decide +kernel⟩ : e_Sn 244 1728 (o_push (.inl 2147483649) 1729)) t_244_1729
noncomputable def n_244_1726 : e_Y := u_ld f_okI f_l4 n_244_1728
theorem t_244_1726 : e_Sn 244 1726 (e_un n_244_1726) := u_ldIT f_l4_eq (s_iload (i := .iload 4) (len := 2) hq_244 (by decide +kernel) rfl (.inl ⟨rfl, rfl⟩) : e_Sn 244 1726 (o_load e_okI 4 1728)) t_244_1728
noncomputable def n_244_1725 : e_Y := u_ld f_okA f_l0 n_244_1726
theorem t_244_1725 : e_Sn 244 1725 (e_un n_244_1725) := u_ldAT f_l0_eq (s_aload (i := .aload_n 0) (len := 1) hq_244 (by decide +kernel) rfl (.inr ⟨0, rfl, rfl, rfl⟩) : e_Sn 244 1725 (o_load e_okR 0 1726)) t_244_1726
noncomputable def n_244_1724 : e_Y := u_ld f_okA f_l2 n_244_1725
theorem t_244_1724 : e_Sn 244 1724 (e_un n_244_1724) := u_ldAT f_l2_eq (s_aload (i := .aload_n 2) (len := 1) hq_244 (by decide +kernel) rfl (.inr ⟨2, rfl, rfl, rfl⟩) : e_Sn 244 1724 (o_load e_okR 2 1725)) t_244_1725
noncomputable def n_244_1722 : e_Y := u_st f_okI f_s5 n_244_1724
theorem t_244_1722 : e_Sn 244 1722 (e_un n_244_1722) := u_stIT (fun _ _ _ => f_s5_eq) (s_istore (i := .istore 5) (len := 2) hq_244 (by decide +kernel) rfl (.inl ⟨rfl, rfl⟩) : e_Sn 244 1722 (o_store e_okI 5 1724)) t_244_1724
noncomputable def n_244_1719 : e_Y := u_callS 108 5 24 4 n_108_0 n_244_1722
theorem t_244_1719 : e_Sn 244 1719 (e_un n_244_1719) := u_callST rfl (s_callSW (index := 214) hq_244 ho_244 hy_108 hp_108 hc_108 hi_108 hd_108 (List.mem_of_getElem? (i := 1693) (by decide +kernel)) hs_108 (by decide +kernel) rfl : e_Sn 244 1719 (o_callS 108 5 4 1722)) t_108_0 t_244_1722
noncomputable def n_244_1718 : e_Y := u_ld f_okA f_l3 n_244_1719
theorem t_244_1718 : e_Sn 244 1718 (e_un n_244_1718) := u_ldAT f_l3_eq (s_aload (i := .aload_n 3) (len := 1) hq_244 (by decide +kernel) rfl (.inr ⟨3, rfl, rfl, rfl⟩) : e_Sn 244 1718 (o_load e_okR 3 1719)) t_244_1719
noncomputable def n_244_1717 : e_Y := u_ald 0 (u_old (o_ald e_fcs 1718) n_244_1718) n_244_1718
theorem t_244_1717 : e_Sn 244 1717 (e_un n_244_1717) := u_aldT (s_iald hq_244 (by decide +kernel) rfl : e_Sn 244 1717 (o_ald e_fcs 1718)) t_244_1718
noncomputable def n_244_1716 : e_Y := u_bin a_iadd (u_old (o_iadd 1717) n_244_1717) n_244_1717
theorem t_244_1716 : e_Sn 244 1716 (e_un n_244_1716) := u_iaddT (s_iadd hq_244 (by decide +kernel) rfl : e_Sn 244 1716 (o_iadd 1717)) t_244_1717
noncomputable def n_244_1715 : e_Y := u_push (.inl 2147483650) n_244_1716
theorem t_244_1715 : e_Sn 244 1715 (e_un n_244_1715) := u_pushT (s_iconst (n := (2)) hq_244 (by decide +kernel) rfl ⟨by decide +kernel, by decide +kernel⟩ : e_Sn 244 1715 (o_push (.inl 2147483650) 1716)) t_244_1716
noncomputable def n_244_1713 : e_Y := u_ld f_okI f_l4 n_244_1715
theorem t_244_1713 : e_Sn 244 1713 (e_un n_244_1713) := u_ldIT f_l4_eq (s_iload (i := .iload 4) (len := 2) hq_244 (by decide +kernel) rfl (.inl ⟨rfl, rfl⟩) : e_Sn 244 1713 (o_load e_okI 4 1715)) t_244_1715
noncomputable def n_244_1712 : e_Y := u_ld f_okA f_l0 n_244_1713
theorem t_244_1712 : e_Sn 244 1712 (e_un n_244_1712) := u_ldAT f_l0_eq (s_aload (i := .aload_n 0) (len := 1) hq_244 (by decide +kernel) rfl (.inr ⟨0, rfl, rfl, rfl⟩) : e_Sn 244 1712 (o_load e_okR 0 1713)) t_244_1713
noncomputable def n_244_1711 : e_Y := u_ald 0 (u_old (o_ald e_fcs 1712) n_244_1712) n_244_1712
theorem t_244_1711 : e_Sn 244 1711 (e_un n_244_1711) := u_aldT (s_iald hq_244 (by decide +kernel) rfl : e_Sn 244 1711 (o_ald e_fcs 1712)) t_244_1712
noncomputable def n_244_1710 : e_Y := u_bin a_iadd (u_old (o_iadd 1711) n_244_1711) n_244_1711
theorem t_244_1710 : e_Sn 244 1710 (e_un n_244_1710) := u_iaddT (s_iadd hq_244 (by decide +kernel) rfl : e_Sn 244 1710 (o_iadd 1711)) t_244_1711
noncomputable def n_244_1709 : e_Y := u_push (.inl 2147483649) n_244_1710
theorem t_244_1709 : e_Sn 244 1709 (e_un n_244_1709) := u_pushT (s_iconst (n := (1)) hq_244 (by decide +kernel) rfl ⟨by decide +kernel, by decide +kernel⟩ : e_Sn 244 1709 (o_push (.inl 2147483649) 1710)) t_244_1710
noncomputable def n_244_1707 : e_Y := u_ld f_okI f_l4 n_244_1709
theorem t_244_1707 : e_Sn 244 1707 (e_un n_244_1707) := u_ldIT f_l4_eq (s_iload (i := .iload 4) (len := 2) hq_244 (by decide +kernel) rfl (.inl ⟨rfl, rfl⟩) : e_Sn 244 1707 (o_load e_okI 4 1709)) t_244_1709
noncomputable def n_244_1706 : e_Y := u_ld f_okA f_l0 n_244_1707
theorem t_244_1706 : e_Sn 244 1706 (e_un n_244_1706) := u_ldAT f_l0_eq (s_aload (i := .aload_n 0) (len := 1) hq_244 (by decide +kernel) rfl (.inr ⟨0, rfl, rfl, rfl⟩) : e_Sn 244 1706 (o_load e_okR 0 1707)) t_244_1707
noncomputable def n_244_1705 : e_Y := u_ld f_okA f_l1 n_244_1706
theorem t_244_1705 : e_Sn 244 1705 (e_un n_244_1705) := u_ldAT f_l1_eq (s_aload (i := .aload_n 1) (len := 1) hq_244 (by decide +kernel) rfl (.inr ⟨1, rfl, rfl, rfl⟩) : e_Sn 244 1705 (o_load e_okR 1 1706)) t_244_1706
noncomputable def n_244_1702 : e_Y := n_244_2235
theorem t_244_1702 : e_Sn 244 1702 (e_un n_244_1702) := u_gotoT (s_goto (off := (533)) hq_244 (by decide +kernel) rfl : e_Sn 244 1702 (o_goto 2235)) t_244_2235
noncomputable def n_244_1697 : e_Y := u_if y_ne0 (u_old2 (o_ifeq 1702 1700) 1702 n_244_1702 (u_at 1700)) n_244_1702 (u_at 1700)
theorem t_244_1697 : e_Sn 244 1697 (e_un n_244_1697) := u_ifeqT rfl (s_ifeq (off := (5)) hq_244 (by decide +kernel) rfl rfl : e_Sn 244 1697 (o_ifeq 1702 1700)) t_244_1702 u_atT
noncomputable def n_244_1696 : e_Y := u_old (o_lcmp 1697) n_244_1697
theorem t_244_1696 : e_Sn 244 1696 (e_un n_244_1696) := u_oldT (s_lcmp hq_244 (by decide +kernel) rfl : e_Sn 244 1696 (o_lcmp 1697)) t_244_1697 e_cg_lcmp
noncomputable def n_244_1695 : e_Y := u_old (o_i2l 1696) n_244_1696
theorem t_244_1695 : e_Sn 244 1695 (e_un n_244_1695) := u_oldT (s_i2l hq_244 (by decide +kernel) rfl : e_Sn 244 1695 (o_i2l 1696)) t_244_1696 e_congr_i2l
noncomputable def n_244_1693 : e_Y := u_ld f_okI f_l6 n_244_1695
theorem t_244_1693 : e_Sn 244 1693 (e_un n_244_1693) := u_ldIT f_l6_eq (s_iload (i := .iload 6) (len := 2) hq_244 (by decide +kernel) rfl (.inl ⟨rfl, rfl⟩) : e_Sn 244 1693 (o_load e_okI 6 1695)) t_244_1695
noncomputable def n_244_1692 : e_Y := u_ald 2 (u_old (o_aldO 2 1693) n_244_1693) n_244_1693
theorem t_244_1692 : e_Sn 244 1692 (e_un n_244_1692) := u_aldOT (s_lald hq_244 (by decide +kernel) rfl : e_Sn 244 1692 (o_aldO 2 1693)) t_244_1693
noncomputable def n_244_1691 : e_Y := u_push (.inl 2147483648) n_244_1692
theorem t_244_1691 : e_Sn 244 1691 (e_un n_244_1691) := u_pushT (s_iconst (n := (0)) hq_244 (by decide +kernel) rfl ⟨by decide +kernel, by decide +kernel⟩ : e_Sn 244 1691 (o_push (.inl 2147483648) 1692)) t_244_1692
noncomputable def n_244_1690 : e_Y := u_ld f_okA f_l3 n_244_1691
theorem t_244_1690 : e_Sn 244 1690 (e_un n_244_1690) := u_ldAT f_l3_eq (s_aload (i := .aload_n 3) (len := 1) hq_244 (by decide +kernel) rfl (.inr ⟨3, rfl, rfl, rfl⟩) : e_Sn 244 1690 (o_load e_okR 3 1691)) t_244_1691
noncomputable def n_244_1687 : e_Y := u_if y_ne0 (u_old2 (o_ifeq 1690 1702) 1690 n_244_1690 n_244_1702) n_244_1690 n_244_1702
theorem t_244_1687 : e_Sn 244 1687 (e_un n_244_1687) := u_ifeqT rfl (s_ifne (off := (15)) hq_244 (by decide +kernel) rfl rfl : e_Sn 244 1687 (o_ifeq 1690 1702)) t_244_1690 t_244_1702
noncomputable def n_244_1685 : e_Y := u_ld f_okI f_l5 n_244_1687
theorem t_244_1685 : e_Sn 244 1685 (e_un n_244_1685) := u_ldIT f_l5_eq (s_iload (i := .iload 5) (len := 2) hq_244 (by decide +kernel) rfl (.inl ⟨rfl, rfl⟩) : e_Sn 244 1685 (o_load e_okI 5 1687)) t_244_1687
noncomputable def n_244_1680 : e_Y := u_jmp y_ne (u_old2 (o_ceq 1685 1683) 1685 n_244_1685 (u_at 1683)) n_244_1685 (u_at 1683)
theorem t_244_1680 : e_Sn 244 1680 (e_un n_244_1680) := u_ceqT rfl (s_ceq (off := (5)) hq_244 (by decide +kernel) rfl rfl : e_Sn 244 1680 (o_ceq 1685 1683)) t_244_1685 u_atT
noncomputable def n_244_1678 : e_Y := u_ld f_okI f_l5 n_244_1680
theorem t_244_1678 : e_Sn 244 1678 (e_un n_244_1678) := u_ldIT f_l5_eq (s_iload (i := .iload 5) (len := 2) hq_244 (by decide +kernel) rfl (.inl ⟨rfl, rfl⟩) : e_Sn 244 1678 (o_load e_okI 5 1680)) t_244_1680
noncomputable def n_244_1675 : e_Y := u_callV 12 199 1 20 1 n_199_0 n_244_1678
theorem t_244_1675 : e_Sn 244 1675 (e_un n_244_1675) := u_callVT rfl (s_callV (ci := 12) (C := er_12) (T := et_12) (N := 5) (index := 117) hq_244 ho_244 hy_199 hp_199 hc_199 hi_199 hd_199 (List.mem_of_getElem? (i := 1974) (by decide +kernel)) hs_199 (List.mem_of_getElem? (i := 1976) (by decide +kernel)) rfl (by decide +kernel) rfl : e_Sn 244 1675 (o_callV (e_s1 12 199 1) 1 1678)) t_199_0 t_244_1678
noncomputable def n_244_1674 : e_Y := u_ld f_okA f_l2 n_244_1675
theorem t_244_1674 : e_Sn 244 1674 (e_un n_244_1674) := u_ldAT f_l2_eq (s_aload (i := .aload_n 2) (len := 1) hq_244 (by decide +kernel) rfl (.inr ⟨2, rfl, rfl, rfl⟩) : e_Sn 244 1674 (o_load e_okR 2 1675)) t_244_1675
noncomputable def n_244_1672 : e_Y := u_st f_okI f_s6 n_244_1674
theorem t_244_1672 : e_Sn 244 1672 (e_un n_244_1672) := u_stIT (fun _ _ _ => f_s6_eq) (s_istore (i := .istore 6) (len := 2) hq_244 (by decide +kernel) rfl (.inl ⟨rfl, rfl⟩) : e_Sn 244 1672 (o_store e_okI 6 1674)) t_244_1674
noncomputable def n_244_1669 : e_Y := u_callV 12 172 5 24 3 n_172_0 n_244_1672
theorem t_244_1669 : e_Sn 244 1669 (e_un n_244_1669) := u_callVT rfl (s_callV (ci := 12) (C := er_12) (T := et_12) (N := 5) (index := 213) hq_244 ho_244 hy_172 hp_172 hc_172 hi_172 hd_172 (List.mem_of_getElem? (i := 3052) (by decide +kernel)) hs_172 (List.mem_of_getElem? (i := 3054) (by decide +kernel)) rfl (by decide +kernel) rfl : e_Sn 244 1669 (o_callV (e_s1 12 172 5) 3 1672)) t_172_0 t_244_1672
noncomputable def n_244_1668 : e_Y := u_ald 0 (u_old (o_ald e_fcs 1669) n_244_1669) n_244_1669
theorem t_244_1668 : e_Sn 244 1668 (e_un n_244_1668) := u_aldT (s_iald hq_244 (by decide +kernel) rfl : e_Sn 244 1668 (o_ald e_fcs 1669)) t_244_1669
noncomputable def n_244_1667 : e_Y := u_bin a_iadd (u_old (o_iadd 1668) n_244_1668) n_244_1668
theorem t_244_1667 : e_Sn 244 1667 (e_un n_244_1667) := u_iaddT (s_iadd hq_244 (by decide +kernel) rfl : e_Sn 244 1667 (o_iadd 1668)) t_244_1668
noncomputable def n_244_1666 : e_Y := u_push (.inl 2147483650) n_244_1667
theorem t_244_1666 : e_Sn 244 1666 (e_un n_244_1666) := u_pushT (s_iconst (n := (2)) hq_244 (by decide +kernel) rfl ⟨by decide +kernel, by decide +kernel⟩ : e_Sn 244 1666 (o_push (.inl 2147483650) 1667)) t_244_1667
noncomputable def n_244_1664 : e_Y := u_ld f_okI f_l4 n_244_1666
theorem t_244_1664 : e_Sn 244 1664 (e_un n_244_1664) := u_ldIT f_l4_eq (s_iload (i := .iload 4) (len := 2) hq_244 (by decide +kernel) rfl (.inl ⟨rfl, rfl⟩) : e_Sn 244 1664 (o_load e_okI 4 1666)) t_244_1666
noncomputable def n_244_1663 : e_Y := u_ld f_okA f_l0 n_244_1664
theorem t_244_1663 : e_Sn 244 1663 (e_un n_244_1663) := u_ldAT f_l0_eq (s_aload (i := .aload_n 0) (len := 1) hq_244 (by decide +kernel) rfl (.inr ⟨0, rfl, rfl, rfl⟩) : e_Sn 244 1663 (o_load e_okR 0 1664)) t_244_1664
noncomputable def n_244_1662 : e_Y := u_ald 0 (u_old (o_ald e_fcs 1663) n_244_1663) n_244_1663
theorem t_244_1662 : e_Sn 244 1662 (e_un n_244_1662) := u_aldT (s_iald hq_244 (by decide +kernel) rfl : e_Sn 244 1662 (o_ald e_fcs 1663)) t_244_1663
noncomputable def n_244_1661 : e_Y := u_bin a_iadd (u_old (o_iadd 1662) n_244_1662) n_244_1662
theorem t_244_1661 : e_Sn 244 1661 (e_un n_244_1661) := u_iaddT (s_iadd hq_244 (by decide +kernel) rfl : e_Sn 244 1661 (o_iadd 1662)) t_244_1662
noncomputable def n_244_1660 : e_Y := u_push (.inl 2147483649) n_244_1661
theorem t_244_1660 : e_Sn 244 1660 (e_un n_244_1660) := u_pushT (s_iconst (n := (1)) hq_244 (by decide +kernel) rfl ⟨by decide +kernel, by decide +kernel⟩ : e_Sn 244 1660 (o_push (.inl 2147483649) 1661)) t_244_1661
noncomputable def n_244_1658 : e_Y := u_ld f_okI f_l4 n_244_1660
theorem t_244_1658 : e_Sn 244 1658 (e_un n_244_1658) := u_ldIT f_l4_eq (s_iload (i := .iload 4) (len := 2) hq_244 (by decide +kernel) rfl (.inl ⟨rfl, rfl⟩) : e_Sn 244 1658 (o_load e_okI 4 1660)) t_244_1660
noncomputable def n_244_1657 : e_Y := u_ld f_okA f_l0 n_244_1658
theorem t_244_1657 : e_Sn 244 1657 (e_un n_244_1657) := u_ldAT f_l0_eq (s_aload (i := .aload_n 0) (len := 1) hq_244 (by decide +kernel) rfl (.inr ⟨0, rfl, rfl, rfl⟩) : e_Sn 244 1657 (o_load e_okR 0 1658)) t_244_1658
noncomputable def n_244_1656 : e_Y := u_ld f_okA f_l2 n_244_1657
theorem t_244_1656 : e_Sn 244 1656 (e_un n_244_1656) := u_ldAT f_l2_eq (s_aload (i := .aload_n 2) (len := 1) hq_244 (by decide +kernel) rfl (.inr ⟨2, rfl, rfl, rfl⟩) : e_Sn 244 1656 (o_load e_okR 2 1657)) t_244_1657
noncomputable def n_244_1654 : e_Y := u_st f_okI f_s5 n_244_1656
theorem t_244_1654 : e_Sn 244 1654 (e_un n_244_1654) := u_stIT (fun _ _ _ => f_s5_eq) (s_istore (i := .istore 5) (len := 2) hq_244 (by decide +kernel) rfl (.inl ⟨rfl, rfl⟩) : e_Sn 244 1654 (o_store e_okI 5 1656)) t_244_1656
noncomputable def n_244_1651 : e_Y := u_callS 117 5 24 4 n_117_0 n_244_1654
theorem t_244_1651 : e_Sn 244 1651 (e_un n_244_1651) := u_callST rfl (s_callSW (index := 211) hq_244 ho_244 hy_117 hp_117 hc_117 hi_117 hd_117 (List.mem_of_getElem? (i := 1689) (by decide +kernel)) hs_117 (by decide +kernel) rfl : e_Sn 244 1651 (o_callS 117 5 4 1654)) t_117_0 t_244_1654
noncomputable def n_244_1650 : e_Y := u_ld f_okA f_l3 n_244_1651
theorem t_244_1650 : e_Sn 244 1650 (e_un n_244_1650) := u_ldAT f_l3_eq (s_aload (i := .aload_n 3) (len := 1) hq_244 (by decide +kernel) rfl (.inr ⟨3, rfl, rfl, rfl⟩) : e_Sn 244 1650 (o_load e_okR 3 1651)) t_244_1651
noncomputable def n_244_1649 : e_Y := u_ald 0 (u_old (o_ald e_fcs 1650) n_244_1650) n_244_1650
theorem t_244_1649 : e_Sn 244 1649 (e_un n_244_1649) := u_aldT (s_iald hq_244 (by decide +kernel) rfl : e_Sn 244 1649 (o_ald e_fcs 1650)) t_244_1650
noncomputable def n_244_1648 : e_Y := u_bin a_iadd (u_old (o_iadd 1649) n_244_1649) n_244_1649
theorem t_244_1648 : e_Sn 244 1648 (e_un n_244_1648) := u_iaddT (s_iadd hq_244 (by decide +kernel) rfl : e_Sn 244 1648 (o_iadd 1649)) t_244_1649
noncomputable def n_244_1647 : e_Y := u_push (.inl 2147483650) n_244_1648
theorem t_244_1647 : e_Sn 244 1647 (e_un n_244_1647) := u_pushT (s_iconst (n := (2)) hq_244 (by decide +kernel) rfl ⟨by decide +kernel, by decide +kernel⟩ : e_Sn 244 1647 (o_push (.inl 2147483650) 1648)) t_244_1648
noncomputable def n_244_1645 : e_Y := u_ld f_okI f_l4 n_244_1647
theorem t_244_1645 : e_Sn 244 1645 (e_un n_244_1645) := u_ldIT f_l4_eq (s_iload (i := .iload 4) (len := 2) hq_244 (by decide +kernel) rfl (.inl ⟨rfl, rfl⟩) : e_Sn 244 1645 (o_load e_okI 4 1647)) t_244_1647
noncomputable def n_244_1644 : e_Y := u_ld f_okA f_l0 n_244_1645
theorem t_244_1644 : e_Sn 244 1644 (e_un n_244_1644) := u_ldAT f_l0_eq (s_aload (i := .aload_n 0) (len := 1) hq_244 (by decide +kernel) rfl (.inr ⟨0, rfl, rfl, rfl⟩) : e_Sn 244 1644 (o_load e_okR 0 1645)) t_244_1645
noncomputable def n_244_1643 : e_Y := u_ald 0 (u_old (o_ald e_fcs 1644) n_244_1644) n_244_1644
theorem t_244_1643 : e_Sn 244 1643 (e_un n_244_1643) := u_aldT (s_iald hq_244 (by decide +kernel) rfl : e_Sn 244 1643 (o_ald e_fcs 1644)) t_244_1644
noncomputable def n_244_1642 : e_Y := u_bin a_iadd (u_old (o_iadd 1643) n_244_1643) n_244_1643
theorem t_244_1642 : e_Sn 244 1642 (e_un n_244_1642) := u_iaddT (s_iadd hq_244 (by decide +kernel) rfl : e_Sn 244 1642 (o_iadd 1643)) t_244_1643
noncomputable def n_244_1641 : e_Y := u_push (.inl 2147483649) n_244_1642
theorem t_244_1641 : e_Sn 244 1641 (e_un n_244_1641) := u_pushT (s_iconst (n := (1)) hq_244 (by decide +kernel) rfl ⟨by decide +kernel, by decide +kernel⟩ : e_Sn 244 1641 (o_push (.inl 2147483649) 1642)) t_244_1642
noncomputable def n_244_1639 : e_Y := u_ld f_okI f_l4 n_244_1641
theorem t_244_1639 : e_Sn 244 1639 (e_un n_244_1639) := u_ldIT f_l4_eq (s_iload (i := .iload 4) (len := 2) hq_244 (by decide +kernel) rfl (.inl ⟨rfl, rfl⟩) : e_Sn 244 1639 (o_load e_okI 4 1641)) t_244_1641
noncomputable def n_244_1638 : e_Y := u_ld f_okA f_l0 n_244_1639
theorem t_244_1638 : e_Sn 244 1638 (e_un n_244_1638) := u_ldAT f_l0_eq (s_aload (i := .aload_n 0) (len := 1) hq_244 (by decide +kernel) rfl (.inr ⟨0, rfl, rfl, rfl⟩) : e_Sn 244 1638 (o_load e_okR 0 1639)) t_244_1639
noncomputable def n_244_1637 : e_Y := u_ld f_okA f_l1 n_244_1638
theorem t_244_1637 : e_Sn 244 1637 (e_un n_244_1637) := u_ldAT f_l1_eq (s_aload (i := .aload_n 1) (len := 1) hq_244 (by decide +kernel) rfl (.inr ⟨1, rfl, rfl, rfl⟩) : e_Sn 244 1637 (o_load e_okR 1 1638)) t_244_1638
noncomputable def n_244_1634 : e_Y := n_244_2235
theorem t_244_1634 : e_Sn 244 1634 (e_un n_244_1634) := u_gotoT (s_goto (off := (601)) hq_244 (by decide +kernel) rfl : e_Sn 244 1634 (o_goto 2235)) t_244_2235
noncomputable def n_244_1619 : e_Y := u_if y_ne0 (u_old2 (o_ifeq 1622 1634) 1622 (u_at 1622) n_244_1634) (u_at 1622) n_244_1634
theorem t_244_1619 : e_Sn 244 1619 (e_un n_244_1619) := u_ifeqT rfl (s_ifne (off := (15)) hq_244 (by decide +kernel) rfl rfl : e_Sn 244 1619 (o_ifeq 1622 1634)) u_atT t_244_1634
noncomputable def n_244_1617 : e_Y := u_ld f_okI f_l5 n_244_1619
theorem t_244_1617 : e_Sn 244 1617 (e_un n_244_1617) := u_ldIT f_l5_eq (s_iload (i := .iload 5) (len := 2) hq_244 (by decide +kernel) rfl (.inl ⟨rfl, rfl⟩) : e_Sn 244 1617 (o_load e_okI 5 1619)) t_244_1619
noncomputable def n_244_1612 : e_Y := u_jmp y_ne (u_old2 (o_ceq 1617 1615) 1617 n_244_1617 (u_at 1615)) n_244_1617 (u_at 1615)
theorem t_244_1612 : e_Sn 244 1612 (e_un n_244_1612) := u_ceqT rfl (s_ceq (off := (5)) hq_244 (by decide +kernel) rfl rfl : e_Sn 244 1612 (o_ceq 1617 1615)) t_244_1617 u_atT
noncomputable def n_244_1610 : e_Y := u_ld f_okI f_l5 n_244_1612
theorem t_244_1610 : e_Sn 244 1610 (e_un n_244_1610) := u_ldIT f_l5_eq (s_iload (i := .iload 5) (len := 2) hq_244 (by decide +kernel) rfl (.inl ⟨rfl, rfl⟩) : e_Sn 244 1610 (o_load e_okI 5 1612)) t_244_1612
noncomputable def n_244_1607 : e_Y := u_callV 12 199 1 20 1 n_199_0 n_244_1610
theorem t_244_1607 : e_Sn 244 1607 (e_un n_244_1607) := u_callVT rfl (s_callV (ci := 12) (C := er_12) (T := et_12) (N := 5) (index := 117) hq_244 ho_244 hy_199 hp_199 hc_199 hi_199 hd_199 (List.mem_of_getElem? (i := 1974) (by decide +kernel)) hs_199 (List.mem_of_getElem? (i := 1976) (by decide +kernel)) rfl (by decide +kernel) rfl : e_Sn 244 1607 (o_callV (e_s1 12 199 1) 1 1610)) t_199_0 t_244_1610
noncomputable def n_244_1606 : e_Y := u_ld f_okA f_l2 n_244_1607
theorem t_244_1606 : e_Sn 244 1606 (e_un n_244_1606) := u_ldAT f_l2_eq (s_aload (i := .aload_n 2) (len := 1) hq_244 (by decide +kernel) rfl (.inr ⟨2, rfl, rfl, rfl⟩) : e_Sn 244 1606 (o_load e_okR 2 1607)) t_244_1607
noncomputable def n_244_1604 : e_Y := u_st f_okI f_s6 n_244_1606
theorem t_244_1604 : e_Sn 244 1604 (e_un n_244_1604) := u_stIT (fun _ _ _ => f_s6_eq) (s_istore (i := .istore 6) (len := 2) hq_244 (by decide +kernel) rfl (.inl ⟨rfl, rfl⟩) : e_Sn 244 1604 (o_store e_okI 6 1606)) t_244_1606
noncomputable def n_244_1601 : e_Y := u_callV 12 152 3 22 3 n_152_0 n_244_1604
theorem t_244_1601 : e_Sn 244 1601 (e_un n_244_1601) := u_callVT rfl (s_callV (ci := 12) (C := er_12) (T := et_12) (N := 5) (index := 210) hq_244 ho_244 hy_152 hp_152 hc_152 hi_152 hd_152 (List.mem_of_getElem? (i := 3042) (by decide +kernel)) hs_152 (List.mem_of_getElem? (i := 3044) (by decide +kernel)) rfl (by decide +kernel) rfl : e_Sn 244 1601 (o_callV (e_s1 12 152 3) 3 1604)) t_152_0 t_244_1604
noncomputable def n_244_1600 : e_Y := u_ald 0 (u_old (o_ald e_fcs 1601) n_244_1601) n_244_1601
theorem t_244_1600 : e_Sn 244 1600 (e_un n_244_1600) := u_aldT (s_iald hq_244 (by decide +kernel) rfl : e_Sn 244 1600 (o_ald e_fcs 1601)) t_244_1601
noncomputable def n_244_1599 : e_Y := u_bin a_iadd (u_old (o_iadd 1600) n_244_1600) n_244_1600
theorem t_244_1599 : e_Sn 244 1599 (e_un n_244_1599) := u_iaddT (s_iadd hq_244 (by decide +kernel) rfl : e_Sn 244 1599 (o_iadd 1600)) t_244_1600
noncomputable def n_244_1598 : e_Y := u_push (.inl 2147483650) n_244_1599
theorem t_244_1598 : e_Sn 244 1598 (e_un n_244_1598) := u_pushT (s_iconst (n := (2)) hq_244 (by decide +kernel) rfl ⟨by decide +kernel, by decide +kernel⟩ : e_Sn 244 1598 (o_push (.inl 2147483650) 1599)) t_244_1599
noncomputable def n_244_1596 : e_Y := u_ld f_okI f_l4 n_244_1598
theorem t_244_1596 : e_Sn 244 1596 (e_un n_244_1596) := u_ldIT f_l4_eq (s_iload (i := .iload 4) (len := 2) hq_244 (by decide +kernel) rfl (.inl ⟨rfl, rfl⟩) : e_Sn 244 1596 (o_load e_okI 4 1598)) t_244_1598
noncomputable def n_244_1595 : e_Y := u_ld f_okA f_l0 n_244_1596
theorem t_244_1595 : e_Sn 244 1595 (e_un n_244_1595) := u_ldAT f_l0_eq (s_aload (i := .aload_n 0) (len := 1) hq_244 (by decide +kernel) rfl (.inr ⟨0, rfl, rfl, rfl⟩) : e_Sn 244 1595 (o_load e_okR 0 1596)) t_244_1596
noncomputable def n_244_1594 : e_Y := u_ald 0 (u_old (o_ald e_fcs 1595) n_244_1595) n_244_1595
theorem t_244_1594 : e_Sn 244 1594 (e_un n_244_1594) := u_aldT (s_iald hq_244 (by decide +kernel) rfl : e_Sn 244 1594 (o_ald e_fcs 1595)) t_244_1595
noncomputable def n_244_1593 : e_Y := u_bin a_iadd (u_old (o_iadd 1594) n_244_1594) n_244_1594
theorem t_244_1593 : e_Sn 244 1593 (e_un n_244_1593) := u_iaddT (s_iadd hq_244 (by decide +kernel) rfl : e_Sn 244 1593 (o_iadd 1594)) t_244_1594
noncomputable def n_244_1592 : e_Y := u_push (.inl 2147483649) n_244_1593
theorem t_244_1592 : e_Sn 244 1592 (e_un n_244_1592) := u_pushT (s_iconst (n := (1)) hq_244 (by decide +kernel) rfl ⟨by decide +kernel, by decide +kernel⟩ : e_Sn 244 1592 (o_push (.inl 2147483649) 1593)) t_244_1593
noncomputable def n_244_1590 : e_Y := u_ld f_okI f_l4 n_244_1592
theorem t_244_1590 : e_Sn 244 1590 (e_un n_244_1590) := u_ldIT f_l4_eq (s_iload (i := .iload 4) (len := 2) hq_244 (by decide +kernel) rfl (.inl ⟨rfl, rfl⟩) : e_Sn 244 1590 (o_load e_okI 4 1592)) t_244_1592
noncomputable def n_244_1589 : e_Y := u_ld f_okA f_l0 n_244_1590
theorem t_244_1589 : e_Sn 244 1589 (e_un n_244_1589) := u_ldAT f_l0_eq (s_aload (i := .aload_n 0) (len := 1) hq_244 (by decide +kernel) rfl (.inr ⟨0, rfl, rfl, rfl⟩) : e_Sn 244 1589 (o_load e_okR 0 1590)) t_244_1590
noncomputable def n_244_1588 : e_Y := u_ld f_okA f_l2 n_244_1589
theorem t_244_1588 : e_Sn 244 1588 (e_un n_244_1588) := u_ldAT f_l2_eq (s_aload (i := .aload_n 2) (len := 1) hq_244 (by decide +kernel) rfl (.inr ⟨2, rfl, rfl, rfl⟩) : e_Sn 244 1588 (o_load e_okR 2 1589)) t_244_1589
noncomputable def n_244_1586 : e_Y := u_st f_okI f_s5 n_244_1588
theorem t_244_1586 : e_Sn 244 1586 (e_un n_244_1586) := u_stIT (fun _ _ _ => f_s5_eq) (s_istore (i := .istore 5) (len := 2) hq_244 (by decide +kernel) rfl (.inl ⟨rfl, rfl⟩) : e_Sn 244 1586 (o_store e_okI 5 1588)) t_244_1588
noncomputable def n_244_1583 : e_Y := u_callS 112 5 24 4 n_112_0 n_244_1586
theorem t_244_1583 : e_Sn 244 1583 (e_un n_244_1583) := u_callST rfl (s_callSW (index := 208) hq_244 ho_244 hy_112 hp_112 hc_112 hi_112 hd_112 (List.mem_of_getElem? (i := 1685) (by decide +kernel)) hs_112 (by decide +kernel) rfl : e_Sn 244 1583 (o_callS 112 5 4 1586)) t_112_0 t_244_1586
noncomputable def n_244_1582 : e_Y := u_ld f_okA f_l3 n_244_1583
theorem t_244_1582 : e_Sn 244 1582 (e_un n_244_1582) := u_ldAT f_l3_eq (s_aload (i := .aload_n 3) (len := 1) hq_244 (by decide +kernel) rfl (.inr ⟨3, rfl, rfl, rfl⟩) : e_Sn 244 1582 (o_load e_okR 3 1583)) t_244_1583
noncomputable def n_244_1581 : e_Y := u_ald 0 (u_old (o_ald e_fcs 1582) n_244_1582) n_244_1582
theorem t_244_1581 : e_Sn 244 1581 (e_un n_244_1581) := u_aldT (s_iald hq_244 (by decide +kernel) rfl : e_Sn 244 1581 (o_ald e_fcs 1582)) t_244_1582
noncomputable def n_244_1580 : e_Y := u_bin a_iadd (u_old (o_iadd 1581) n_244_1581) n_244_1581
theorem t_244_1580 : e_Sn 244 1580 (e_un n_244_1580) := u_iaddT (s_iadd hq_244 (by decide +kernel) rfl : e_Sn 244 1580 (o_iadd 1581)) t_244_1581
noncomputable def n_244_1579 : e_Y := u_push (.inl 2147483650) n_244_1580
theorem t_244_1579 : e_Sn 244 1579 (e_un n_244_1579) := u_pushT (s_iconst (n := (2)) hq_244 (by decide +kernel) rfl ⟨by decide +kernel, by decide +kernel⟩ : e_Sn 244 1579 (o_push (.inl 2147483650) 1580)) t_244_1580
noncomputable def n_244_1577 : e_Y := u_ld f_okI f_l4 n_244_1579
theorem t_244_1577 : e_Sn 244 1577 (e_un n_244_1577) := u_ldIT f_l4_eq (s_iload (i := .iload 4) (len := 2) hq_244 (by decide +kernel) rfl (.inl ⟨rfl, rfl⟩) : e_Sn 244 1577 (o_load e_okI 4 1579)) t_244_1579
noncomputable def n_244_1576 : e_Y := u_ld f_okA f_l0 n_244_1577
theorem t_244_1576 : e_Sn 244 1576 (e_un n_244_1576) := u_ldAT f_l0_eq (s_aload (i := .aload_n 0) (len := 1) hq_244 (by decide +kernel) rfl (.inr ⟨0, rfl, rfl, rfl⟩) : e_Sn 244 1576 (o_load e_okR 0 1577)) t_244_1577
noncomputable def n_244_1575 : e_Y := u_ald 0 (u_old (o_ald e_fcs 1576) n_244_1576) n_244_1576
theorem t_244_1575 : e_Sn 244 1575 (e_un n_244_1575) := u_aldT (s_iald hq_244 (by decide +kernel) rfl : e_Sn 244 1575 (o_ald e_fcs 1576)) t_244_1576
noncomputable def n_244_1574 : e_Y := u_bin a_iadd (u_old (o_iadd 1575) n_244_1575) n_244_1575
theorem t_244_1574 : e_Sn 244 1574 (e_un n_244_1574) := u_iaddT (s_iadd hq_244 (by decide +kernel) rfl : e_Sn 244 1574 (o_iadd 1575)) t_244_1575
noncomputable def n_244_1573 : e_Y := u_push (.inl 2147483649) n_244_1574
theorem t_244_1573 : e_Sn 244 1573 (e_un n_244_1573) := u_pushT (s_iconst (n := (1)) hq_244 (by decide +kernel) rfl ⟨by decide +kernel, by decide +kernel⟩ : e_Sn 244 1573 (o_push (.inl 2147483649) 1574)) t_244_1574
noncomputable def n_244_1571 : e_Y := u_ld f_okI f_l4 n_244_1573
theorem t_244_1571 : e_Sn 244 1571 (e_un n_244_1571) := u_ldIT f_l4_eq (s_iload (i := .iload 4) (len := 2) hq_244 (by decide +kernel) rfl (.inl ⟨rfl, rfl⟩) : e_Sn 244 1571 (o_load e_okI 4 1573)) t_244_1573
noncomputable def n_244_1570 : e_Y := u_ld f_okA f_l0 n_244_1571
theorem t_244_1570 : e_Sn 244 1570 (e_un n_244_1570) := u_ldAT f_l0_eq (s_aload (i := .aload_n 0) (len := 1) hq_244 (by decide +kernel) rfl (.inr ⟨0, rfl, rfl, rfl⟩) : e_Sn 244 1570 (o_load e_okR 0 1571)) t_244_1571
noncomputable def n_244_1569 : e_Y := u_ld f_okA f_l1 n_244_1570
theorem t_244_1569 : e_Sn 244 1569 (e_un n_244_1569) := u_ldAT f_l1_eq (s_aload (i := .aload_n 1) (len := 1) hq_244 (by decide +kernel) rfl (.inr ⟨1, rfl, rfl, rfl⟩) : e_Sn 244 1569 (o_load e_okR 1 1570)) t_244_1570
noncomputable def n_244_1564 : e_Y := u_jmp y_ne (u_old2 (o_ceq 2235 1567) 2235 n_244_2235 (u_at 1567)) n_244_2235 (u_at 1567)
theorem t_244_1564 : e_Sn 244 1564 (e_un n_244_1564) := u_ceqT rfl (s_ceq (off := (671)) hq_244 (by decide +kernel) rfl rfl : e_Sn 244 1564 (o_ceq 2235 1567)) t_244_2235 u_atT
noncomputable def n_244_1561 : e_Y := u_callV 12 153 1 20 1 n_153_0 n_244_1564
theorem t_244_1561 : e_Sn 244 1561 (e_un n_244_1561) := u_callVT rfl (s_callV (ci := 12) (C := er_12) (T := et_12) (N := 5) (index := 207) hq_244 ho_244 hy_153 hp_153 hc_153 hi_153 hd_153 (List.mem_of_getElem? (i := 3038) (by decide +kernel)) hs_153 (List.mem_of_getElem? (i := 3040) (by decide +kernel)) rfl (by decide +kernel) rfl : e_Sn 244 1561 (o_callV (e_s1 12 153 1) 1 1564)) t_153_0 t_244_1564
noncomputable def n_244_1560 : e_Y := u_ld f_okA f_l2 n_244_1561
theorem t_244_1560 : e_Sn 244 1560 (e_un n_244_1560) := u_ldAT f_l2_eq (s_aload (i := .aload_n 2) (len := 1) hq_244 (by decide +kernel) rfl (.inr ⟨2, rfl, rfl, rfl⟩) : e_Sn 244 1560 (o_load e_okR 2 1561)) t_244_1561
noncomputable def n_244_1557 : e_Y := u_callV 0 18 1 20 1 n_18_0 n_244_1560
theorem t_244_1557 : e_Sn 244 1557 (e_un n_244_1557) := u_callVT rfl (s_callV (ci := 0) (C := er_0) (T := et_0) (N := 17) (index := 204) hq_244 ho_244 hy_18 hp_18 hc_18 hi_18 hd_18 (List.mem_of_getElem? (i := 1267) (by decide +kernel)) hs_18 (List.mem_of_getElem? (i := 1269) (by decide +kernel)) rfl (by decide +kernel) rfl : e_Sn 244 1557 (o_callV (e_s1 0 18 1) 1 1560)) t_18_0 t_244_1560
noncomputable def n_244_1556 : e_Y := u_ld f_okA f_l1 n_244_1557
theorem t_244_1556 : e_Sn 244 1556 (e_un n_244_1556) := u_ldAT f_l1_eq (s_aload (i := .aload_n 1) (len := 1) hq_244 (by decide +kernel) rfl (.inr ⟨1, rfl, rfl, rfl⟩) : e_Sn 244 1556 (o_load e_okR 1 1557)) t_244_1557
noncomputable def n_244_1553 : e_Y := n_244_2235
theorem t_244_1553 : e_Sn 244 1553 (e_un n_244_1553) := u_gotoT (s_goto (off := (682)) hq_244 (by decide +kernel) rfl : e_Sn 244 1553 (o_goto 2235)) t_244_2235
noncomputable def n_244_1538 : e_Y := u_if y_ne0 (u_old2 (o_ifeq 1541 1553) 1541 (u_at 1541) n_244_1553) (u_at 1541) n_244_1553
theorem t_244_1538 : e_Sn 244 1538 (e_un n_244_1538) := u_ifeqT rfl (s_ifne (off := (15)) hq_244 (by decide +kernel) rfl rfl : e_Sn 244 1538 (o_ifeq 1541 1553)) u_atT t_244_1553
noncomputable def n_244_1536 : e_Y := u_ld f_okI f_l5 n_244_1538
theorem t_244_1536 : e_Sn 244 1536 (e_un n_244_1536) := u_ldIT f_l5_eq (s_iload (i := .iload 5) (len := 2) hq_244 (by decide +kernel) rfl (.inl ⟨rfl, rfl⟩) : e_Sn 244 1536 (o_load e_okI 5 1538)) t_244_1538
noncomputable def n_244_1531 : e_Y := u_jmp y_ne (u_old2 (o_ceq 1536 1534) 1536 n_244_1536 (u_at 1534)) n_244_1536 (u_at 1534)
theorem t_244_1531 : e_Sn 244 1531 (e_un n_244_1531) := u_ceqT rfl (s_ceq (off := (5)) hq_244 (by decide +kernel) rfl rfl : e_Sn 244 1531 (o_ceq 1536 1534)) t_244_1536 u_atT
noncomputable def n_244_1529 : e_Y := u_ld f_okI f_l5 n_244_1531
theorem t_244_1529 : e_Sn 244 1529 (e_un n_244_1529) := u_ldIT f_l5_eq (s_iload (i := .iload 5) (len := 2) hq_244 (by decide +kernel) rfl (.inl ⟨rfl, rfl⟩) : e_Sn 244 1529 (o_load e_okI 5 1531)) t_244_1531
noncomputable def n_244_1526 : e_Y := u_callV 12 199 1 20 1 n_199_0 n_244_1529
theorem t_244_1526 : e_Sn 244 1526 (e_un n_244_1526) := u_callVT rfl (s_callV (ci := 12) (C := er_12) (T := et_12) (N := 5) (index := 117) hq_244 ho_244 hy_199 hp_199 hc_199 hi_199 hd_199 (List.mem_of_getElem? (i := 1974) (by decide +kernel)) hs_199 (List.mem_of_getElem? (i := 1976) (by decide +kernel)) rfl (by decide +kernel) rfl : e_Sn 244 1526 (o_callV (e_s1 12 199 1) 1 1529)) t_199_0 t_244_1529
noncomputable def n_244_1525 : e_Y := u_ld f_okA f_l2 n_244_1526
theorem t_244_1525 : e_Sn 244 1525 (e_un n_244_1525) := u_ldAT f_l2_eq (s_aload (i := .aload_n 2) (len := 1) hq_244 (by decide +kernel) rfl (.inr ⟨2, rfl, rfl, rfl⟩) : e_Sn 244 1525 (o_load e_okR 2 1526)) t_244_1526
noncomputable def n_244_1523 : e_Y := u_st f_okI f_s6 n_244_1525
theorem t_244_1523 : e_Sn 244 1523 (e_un n_244_1523) := u_stIT (fun _ _ _ => f_s6_eq) (s_istore (i := .istore 6) (len := 2) hq_244 (by decide +kernel) rfl (.inl ⟨rfl, rfl⟩) : e_Sn 244 1523 (o_store e_okI 6 1525)) t_244_1525
noncomputable def n_244_1520 : e_Y := u_callV 12 157 11 30 5 n_157_0 n_244_1523
theorem t_244_1520 : e_Sn 244 1520 (e_un n_244_1520) := u_callVT rfl (s_callV (ci := 12) (C := er_12) (T := et_12) (N := 5) (index := 203) hq_244 ho_244 hy_157 hp_157 hc_157 hi_157 hd_157 (List.mem_of_getElem? (i := 3031) (by decide +kernel)) hs_157 (List.mem_of_getElem? (i := 3033) (by decide +kernel)) rfl (by decide +kernel) rfl : e_Sn 244 1520 (o_callV (e_s1 12 157 11) 5 1523)) t_157_0 t_244_1523
noncomputable def n_244_1519 : e_Y := u_ald 0 (u_old (o_ald e_fcs 1520) n_244_1520) n_244_1520
theorem t_244_1519 : e_Sn 244 1519 (e_un n_244_1519) := u_aldT (s_iald hq_244 (by decide +kernel) rfl : e_Sn 244 1519 (o_ald e_fcs 1520)) t_244_1520
noncomputable def n_244_1518 : e_Y := u_bin a_iadd (u_old (o_iadd 1519) n_244_1519) n_244_1519
theorem t_244_1518 : e_Sn 244 1518 (e_un n_244_1518) := u_iaddT (s_iadd hq_244 (by decide +kernel) rfl : e_Sn 244 1518 (o_iadd 1519)) t_244_1519
noncomputable def n_244_1517 : e_Y := u_push (.inl 2147483652) n_244_1518
theorem t_244_1517 : e_Sn 244 1517 (e_un n_244_1517) := u_pushT (s_iconst (n := (4)) hq_244 (by decide +kernel) rfl ⟨by decide +kernel, by decide +kernel⟩ : e_Sn 244 1517 (o_push (.inl 2147483652) 1518)) t_244_1518
noncomputable def n_244_1515 : e_Y := u_ld f_okI f_l4 n_244_1517
theorem t_244_1515 : e_Sn 244 1515 (e_un n_244_1515) := u_ldIT f_l4_eq (s_iload (i := .iload 4) (len := 2) hq_244 (by decide +kernel) rfl (.inl ⟨rfl, rfl⟩) : e_Sn 244 1515 (o_load e_okI 4 1517)) t_244_1517
noncomputable def n_244_1514 : e_Y := u_ld f_okA f_l0 n_244_1515
theorem t_244_1514 : e_Sn 244 1514 (e_un n_244_1514) := u_ldAT f_l0_eq (s_aload (i := .aload_n 0) (len := 1) hq_244 (by decide +kernel) rfl (.inr ⟨0, rfl, rfl, rfl⟩) : e_Sn 244 1514 (o_load e_okR 0 1515)) t_244_1515
noncomputable def n_244_1513 : e_Y := u_ald 0 (u_old (o_ald e_fcs 1514) n_244_1514) n_244_1514
theorem t_244_1513 : e_Sn 244 1513 (e_un n_244_1513) := u_aldT (s_iald hq_244 (by decide +kernel) rfl : e_Sn 244 1513 (o_ald e_fcs 1514)) t_244_1514
noncomputable def n_244_1512 : e_Y := u_bin a_iadd (u_old (o_iadd 1513) n_244_1513) n_244_1513
theorem t_244_1512 : e_Sn 244 1512 (e_un n_244_1512) := u_iaddT (s_iadd hq_244 (by decide +kernel) rfl : e_Sn 244 1512 (o_iadd 1513)) t_244_1513
noncomputable def n_244_1511 : e_Y := u_push (.inl 2147483651) n_244_1512
theorem t_244_1511 : e_Sn 244 1511 (e_un n_244_1511) := u_pushT (s_iconst (n := (3)) hq_244 (by decide +kernel) rfl ⟨by decide +kernel, by decide +kernel⟩ : e_Sn 244 1511 (o_push (.inl 2147483651) 1512)) t_244_1512
noncomputable def n_244_1509 : e_Y := u_ld f_okI f_l4 n_244_1511
theorem t_244_1509 : e_Sn 244 1509 (e_un n_244_1509) := u_ldIT f_l4_eq (s_iload (i := .iload 4) (len := 2) hq_244 (by decide +kernel) rfl (.inl ⟨rfl, rfl⟩) : e_Sn 244 1509 (o_load e_okI 4 1511)) t_244_1511
noncomputable def n_244_1508 : e_Y := u_ld f_okA f_l0 n_244_1509
theorem t_244_1508 : e_Sn 244 1508 (e_un n_244_1508) := u_ldAT f_l0_eq (s_aload (i := .aload_n 0) (len := 1) hq_244 (by decide +kernel) rfl (.inr ⟨0, rfl, rfl, rfl⟩) : e_Sn 244 1508 (o_load e_okR 0 1509)) t_244_1509
noncomputable def n_244_1507 : e_Y := u_ald 0 (u_old (o_ald e_fcs 1508) n_244_1508) n_244_1508
theorem t_244_1507 : e_Sn 244 1507 (e_un n_244_1507) := u_aldT (s_iald hq_244 (by decide +kernel) rfl : e_Sn 244 1507 (o_ald e_fcs 1508)) t_244_1508
noncomputable def n_244_1506 : e_Y := u_bin a_iadd (u_old (o_iadd 1507) n_244_1507) n_244_1507
theorem t_244_1506 : e_Sn 244 1506 (e_un n_244_1506) := u_iaddT (s_iadd hq_244 (by decide +kernel) rfl : e_Sn 244 1506 (o_iadd 1507)) t_244_1507
noncomputable def n_244_1505 : e_Y := u_push (.inl 2147483650) n_244_1506
theorem t_244_1505 : e_Sn 244 1505 (e_un n_244_1505) := u_pushT (s_iconst (n := (2)) hq_244 (by decide +kernel) rfl ⟨by decide +kernel, by decide +kernel⟩ : e_Sn 244 1505 (o_push (.inl 2147483650) 1506)) t_244_1506
noncomputable def n_244_1503 : e_Y := u_ld f_okI f_l4 n_244_1505
theorem t_244_1503 : e_Sn 244 1503 (e_un n_244_1503) := u_ldIT f_l4_eq (s_iload (i := .iload 4) (len := 2) hq_244 (by decide +kernel) rfl (.inl ⟨rfl, rfl⟩) : e_Sn 244 1503 (o_load e_okI 4 1505)) t_244_1505
noncomputable def n_244_1502 : e_Y := u_ld f_okA f_l0 n_244_1503
theorem t_244_1502 : e_Sn 244 1502 (e_un n_244_1502) := u_ldAT f_l0_eq (s_aload (i := .aload_n 0) (len := 1) hq_244 (by decide +kernel) rfl (.inr ⟨0, rfl, rfl, rfl⟩) : e_Sn 244 1502 (o_load e_okR 0 1503)) t_244_1503
noncomputable def n_244_1501 : e_Y := u_ald 0 (u_old (o_ald e_fcs 1502) n_244_1502) n_244_1502
theorem t_244_1501 : e_Sn 244 1501 (e_un n_244_1501) := u_aldT (s_iald hq_244 (by decide +kernel) rfl : e_Sn 244 1501 (o_ald e_fcs 1502)) t_244_1502
noncomputable def n_244_1500 : e_Y := u_bin a_iadd (u_old (o_iadd 1501) n_244_1501) n_244_1501
theorem t_244_1500 : e_Sn 244 1500 (e_un n_244_1500) := u_iaddT (s_iadd hq_244 (by decide +kernel) rfl : e_Sn 244 1500 (o_iadd 1501)) t_244_1501
noncomputable def n_244_1499 : e_Y := u_push (.inl 2147483649) n_244_1500
theorem t_244_1499 : e_Sn 244 1499 (e_un n_244_1499) := u_pushT (s_iconst (n := (1)) hq_244 (by decide +kernel) rfl ⟨by decide +kernel, by decide +kernel⟩ : e_Sn 244 1499 (o_push (.inl 2147483649) 1500)) t_244_1500
noncomputable def n_244_1497 : e_Y := u_ld f_okI f_l4 n_244_1499
theorem t_244_1497 : e_Sn 244 1497 (e_un n_244_1497) := u_ldIT f_l4_eq (s_iload (i := .iload 4) (len := 2) hq_244 (by decide +kernel) rfl (.inl ⟨rfl, rfl⟩) : e_Sn 244 1497 (o_load e_okI 4 1499)) t_244_1499
noncomputable def n_244_1496 : e_Y := u_ld f_okA f_l0 n_244_1497
theorem t_244_1496 : e_Sn 244 1496 (e_un n_244_1496) := u_ldAT f_l0_eq (s_aload (i := .aload_n 0) (len := 1) hq_244 (by decide +kernel) rfl (.inr ⟨0, rfl, rfl, rfl⟩) : e_Sn 244 1496 (o_load e_okR 0 1497)) t_244_1497
noncomputable def n_244_1495 : e_Y := u_ld f_okA f_l2 n_244_1496
theorem t_244_1495 : e_Sn 244 1495 (e_un n_244_1495) := u_ldAT f_l2_eq (s_aload (i := .aload_n 2) (len := 1) hq_244 (by decide +kernel) rfl (.inr ⟨2, rfl, rfl, rfl⟩) : e_Sn 244 1495 (o_load e_okR 2 1496)) t_244_1496
noncomputable def n_244_1493 : e_Y := u_st f_okI f_s5 n_244_1495
theorem t_244_1493 : e_Sn 244 1493 (e_un n_244_1493) := u_stIT (fun _ _ _ => f_s5_eq) (s_istore (i := .istore 5) (len := 2) hq_244 (by decide +kernel) rfl (.inl ⟨rfl, rfl⟩) : e_Sn 244 1493 (o_store e_okI 5 1495)) t_244_1495
noncomputable def n_244_1490 : e_Y := u_callS 114 7 26 6 n_114_0 n_244_1493
theorem t_244_1490 : e_Sn 244 1490 (e_un n_244_1490) := u_callST rfl (s_callSW (index := 200) hq_244 ho_244 hy_114 hp_114 hc_114 hi_114 hd_114 (List.mem_of_getElem? (i := 1673) (by decide +kernel)) hs_114 (by decide +kernel) rfl : e_Sn 244 1490 (o_callS 114 7 6 1493)) t_114_0 t_244_1493
noncomputable def n_244_1489 : e_Y := u_ld f_okA f_l3 n_244_1490
theorem t_244_1489 : e_Sn 244 1489 (e_un n_244_1489) := u_ldAT f_l3_eq (s_aload (i := .aload_n 3) (len := 1) hq_244 (by decide +kernel) rfl (.inr ⟨3, rfl, rfl, rfl⟩) : e_Sn 244 1489 (o_load e_okR 3 1490)) t_244_1490
noncomputable def n_244_1488 : e_Y := u_ald 0 (u_old (o_ald e_fcs 1489) n_244_1489) n_244_1489
theorem t_244_1488 : e_Sn 244 1488 (e_un n_244_1488) := u_aldT (s_iald hq_244 (by decide +kernel) rfl : e_Sn 244 1488 (o_ald e_fcs 1489)) t_244_1489
noncomputable def n_244_1487 : e_Y := u_bin a_iadd (u_old (o_iadd 1488) n_244_1488) n_244_1488
theorem t_244_1487 : e_Sn 244 1487 (e_un n_244_1487) := u_iaddT (s_iadd hq_244 (by decide +kernel) rfl : e_Sn 244 1487 (o_iadd 1488)) t_244_1488
noncomputable def n_244_1486 : e_Y := u_push (.inl 2147483652) n_244_1487
theorem t_244_1486 : e_Sn 244 1486 (e_un n_244_1486) := u_pushT (s_iconst (n := (4)) hq_244 (by decide +kernel) rfl ⟨by decide +kernel, by decide +kernel⟩ : e_Sn 244 1486 (o_push (.inl 2147483652) 1487)) t_244_1487
noncomputable def n_244_1484 : e_Y := u_ld f_okI f_l4 n_244_1486
theorem t_244_1484 : e_Sn 244 1484 (e_un n_244_1484) := u_ldIT f_l4_eq (s_iload (i := .iload 4) (len := 2) hq_244 (by decide +kernel) rfl (.inl ⟨rfl, rfl⟩) : e_Sn 244 1484 (o_load e_okI 4 1486)) t_244_1486
noncomputable def n_244_1483 : e_Y := u_ld f_okA f_l0 n_244_1484
theorem t_244_1483 : e_Sn 244 1483 (e_un n_244_1483) := u_ldAT f_l0_eq (s_aload (i := .aload_n 0) (len := 1) hq_244 (by decide +kernel) rfl (.inr ⟨0, rfl, rfl, rfl⟩) : e_Sn 244 1483 (o_load e_okR 0 1484)) t_244_1484
noncomputable def n_244_1482 : e_Y := u_ald 0 (u_old (o_ald e_fcs 1483) n_244_1483) n_244_1483
theorem t_244_1482 : e_Sn 244 1482 (e_un n_244_1482) := u_aldT (s_iald hq_244 (by decide +kernel) rfl : e_Sn 244 1482 (o_ald e_fcs 1483)) t_244_1483
noncomputable def n_244_1481 : e_Y := u_bin a_iadd (u_old (o_iadd 1482) n_244_1482) n_244_1482
theorem t_244_1481 : e_Sn 244 1481 (e_un n_244_1481) := u_iaddT (s_iadd hq_244 (by decide +kernel) rfl : e_Sn 244 1481 (o_iadd 1482)) t_244_1482
noncomputable def n_244_1480 : e_Y := u_push (.inl 2147483651) n_244_1481
theorem t_244_1480 : e_Sn 244 1480 (e_un n_244_1480) := u_pushT (s_iconst (n := (3)) hq_244 (by decide +kernel) rfl ⟨by decide +kernel, by decide +kernel⟩ : e_Sn 244 1480 (o_push (.inl 2147483651) 1481)) t_244_1481
noncomputable def n_244_1478 : e_Y := u_ld f_okI f_l4 n_244_1480
theorem t_244_1478 : e_Sn 244 1478 (e_un n_244_1478) := u_ldIT f_l4_eq (s_iload (i := .iload 4) (len := 2) hq_244 (by decide +kernel) rfl (.inl ⟨rfl, rfl⟩) : e_Sn 244 1478 (o_load e_okI 4 1480)) t_244_1480
noncomputable def n_244_1477 : e_Y := u_ld f_okA f_l0 n_244_1478
theorem t_244_1477 : e_Sn 244 1477 (e_un n_244_1477) := u_ldAT f_l0_eq (s_aload (i := .aload_n 0) (len := 1) hq_244 (by decide +kernel) rfl (.inr ⟨0, rfl, rfl, rfl⟩) : e_Sn 244 1477 (o_load e_okR 0 1478)) t_244_1478
noncomputable def n_244_1476 : e_Y := u_ald 0 (u_old (o_ald e_fcs 1477) n_244_1477) n_244_1477
theorem t_244_1476 : e_Sn 244 1476 (e_un n_244_1476) := u_aldT (s_iald hq_244 (by decide +kernel) rfl : e_Sn 244 1476 (o_ald e_fcs 1477)) t_244_1477
noncomputable def n_244_1475 : e_Y := u_bin a_iadd (u_old (o_iadd 1476) n_244_1476) n_244_1476
theorem t_244_1475 : e_Sn 244 1475 (e_un n_244_1475) := u_iaddT (s_iadd hq_244 (by decide +kernel) rfl : e_Sn 244 1475 (o_iadd 1476)) t_244_1476
noncomputable def n_244_1474 : e_Y := u_push (.inl 2147483650) n_244_1475
theorem t_244_1474 : e_Sn 244 1474 (e_un n_244_1474) := u_pushT (s_iconst (n := (2)) hq_244 (by decide +kernel) rfl ⟨by decide +kernel, by decide +kernel⟩ : e_Sn 244 1474 (o_push (.inl 2147483650) 1475)) t_244_1475
noncomputable def n_244_1472 : e_Y := u_ld f_okI f_l4 n_244_1474
theorem t_244_1472 : e_Sn 244 1472 (e_un n_244_1472) := u_ldIT f_l4_eq (s_iload (i := .iload 4) (len := 2) hq_244 (by decide +kernel) rfl (.inl ⟨rfl, rfl⟩) : e_Sn 244 1472 (o_load e_okI 4 1474)) t_244_1474
noncomputable def n_244_1471 : e_Y := u_ld f_okA f_l0 n_244_1472
theorem t_244_1471 : e_Sn 244 1471 (e_un n_244_1471) := u_ldAT f_l0_eq (s_aload (i := .aload_n 0) (len := 1) hq_244 (by decide +kernel) rfl (.inr ⟨0, rfl, rfl, rfl⟩) : e_Sn 244 1471 (o_load e_okR 0 1472)) t_244_1472
noncomputable def n_244_1470 : e_Y := u_ald 0 (u_old (o_ald e_fcs 1471) n_244_1471) n_244_1471
theorem t_244_1470 : e_Sn 244 1470 (e_un n_244_1470) := u_aldT (s_iald hq_244 (by decide +kernel) rfl : e_Sn 244 1470 (o_ald e_fcs 1471)) t_244_1471
noncomputable def n_244_1469 : e_Y := u_bin a_iadd (u_old (o_iadd 1470) n_244_1470) n_244_1470
theorem t_244_1469 : e_Sn 244 1469 (e_un n_244_1469) := u_iaddT (s_iadd hq_244 (by decide +kernel) rfl : e_Sn 244 1469 (o_iadd 1470)) t_244_1470
noncomputable def n_244_1468 : e_Y := u_push (.inl 2147483649) n_244_1469
theorem t_244_1468 : e_Sn 244 1468 (e_un n_244_1468) := u_pushT (s_iconst (n := (1)) hq_244 (by decide +kernel) rfl ⟨by decide +kernel, by decide +kernel⟩ : e_Sn 244 1468 (o_push (.inl 2147483649) 1469)) t_244_1469
noncomputable def n_244_1466 : e_Y := u_ld f_okI f_l4 n_244_1468
theorem t_244_1466 : e_Sn 244 1466 (e_un n_244_1466) := u_ldIT f_l4_eq (s_iload (i := .iload 4) (len := 2) hq_244 (by decide +kernel) rfl (.inl ⟨rfl, rfl⟩) : e_Sn 244 1466 (o_load e_okI 4 1468)) t_244_1468
noncomputable def n_244_1465 : e_Y := u_ld f_okA f_l0 n_244_1466
theorem t_244_1465 : e_Sn 244 1465 (e_un n_244_1465) := u_ldAT f_l0_eq (s_aload (i := .aload_n 0) (len := 1) hq_244 (by decide +kernel) rfl (.inr ⟨0, rfl, rfl, rfl⟩) : e_Sn 244 1465 (o_load e_okR 0 1466)) t_244_1466
noncomputable def n_244_1464 : e_Y := u_ld f_okA f_l1 n_244_1465
theorem t_244_1464 : e_Sn 244 1464 (e_un n_244_1464) := u_ldAT f_l1_eq (s_aload (i := .aload_n 1) (len := 1) hq_244 (by decide +kernel) rfl (.inr ⟨1, rfl, rfl, rfl⟩) : e_Sn 244 1464 (o_load e_okR 1 1465)) t_244_1465
noncomputable def n_244_1459 : e_Y := u_jmp y_ne (u_old2 (o_ceq 2235 1462) 2235 n_244_2235 (u_at 1462)) n_244_2235 (u_at 1462)
theorem t_244_1459 : e_Sn 244 1459 (e_un n_244_1459) := u_ceqT rfl (s_ceq (off := (776)) hq_244 (by decide +kernel) rfl rfl : e_Sn 244 1459 (o_ceq 2235 1462)) t_244_2235 u_atT
noncomputable def n_244_1456 : e_Y := u_callV 12 160 1 20 1 n_160_0 n_244_1459
theorem t_244_1456 : e_Sn 244 1456 (e_un n_244_1456) := u_callVT rfl (s_callV (ci := 12) (C := er_12) (T := et_12) (N := 5) (index := 199) hq_244 ho_244 hy_160 hp_160 hc_160 hi_160 hd_160 (List.mem_of_getElem? (i := 3022) (by decide +kernel)) hs_160 (List.mem_of_getElem? (i := 3024) (by decide +kernel)) rfl (by decide +kernel) rfl : e_Sn 244 1456 (o_callV (e_s1 12 160 1) 1 1459)) t_160_0 t_244_1459
noncomputable def n_244_1455 : e_Y := u_ld f_okA f_l2 n_244_1456
theorem t_244_1455 : e_Sn 244 1455 (e_un n_244_1455) := u_ldAT f_l2_eq (s_aload (i := .aload_n 2) (len := 1) hq_244 (by decide +kernel) rfl (.inr ⟨2, rfl, rfl, rfl⟩) : e_Sn 244 1455 (o_load e_okR 2 1456)) t_244_1456
noncomputable def n_244_1452 : e_Y := u_callV 0 25 1 20 1 n_25_0 n_244_1455
theorem t_244_1452 : e_Sn 244 1452 (e_un n_244_1452) := u_callVT rfl (s_callV (ci := 0) (C := er_0) (T := et_0) (N := 17) (index := 196) hq_244 ho_244 hy_25 hp_25 hc_25 hi_25 hd_25 (List.mem_of_getElem? (i := 1254) (by decide +kernel)) hs_25 (List.mem_of_getElem? (i := 1256) (by decide +kernel)) rfl (by decide +kernel) rfl : e_Sn 244 1452 (o_callV (e_s1 0 25 1) 1 1455)) t_25_0 t_244_1455
noncomputable def n_244_1451 : e_Y := u_ld f_okA f_l1 n_244_1452
theorem t_244_1451 : e_Sn 244 1451 (e_un n_244_1451) := u_ldAT f_l1_eq (s_aload (i := .aload_n 1) (len := 1) hq_244 (by decide +kernel) rfl (.inr ⟨1, rfl, rfl, rfl⟩) : e_Sn 244 1451 (o_load e_okR 1 1452)) t_244_1452
noncomputable def n_244_1448 : e_Y := n_244_2235
theorem t_244_1448 : e_Sn 244 1448 (e_un n_244_1448) := u_gotoT (s_goto (off := (787)) hq_244 (by decide +kernel) rfl : e_Sn 244 1448 (o_goto 2235)) t_244_2235
noncomputable def n_244_1443 : e_Y := u_if y_ne0 (u_old2 (o_ifeq 1448 1446) 1448 n_244_1448 (u_at 1446)) n_244_1448 (u_at 1446)
theorem t_244_1443 : e_Sn 244 1443 (e_un n_244_1443) := u_ifeqT rfl (s_ifeq (off := (5)) hq_244 (by decide +kernel) rfl rfl : e_Sn 244 1443 (o_ifeq 1448 1446)) t_244_1448 u_atT
noncomputable def n_244_1442 : e_Y := u_old (o_lcmp 1443) n_244_1443
theorem t_244_1442 : e_Sn 244 1442 (e_un n_244_1442) := u_oldT (s_lcmp hq_244 (by decide +kernel) rfl : e_Sn 244 1442 (o_lcmp 1443)) t_244_1443 e_cg_lcmp
noncomputable def n_244_1441 : e_Y := u_old (o_i2l 1442) n_244_1442
theorem t_244_1441 : e_Sn 244 1441 (e_un n_244_1441) := u_oldT (s_i2l hq_244 (by decide +kernel) rfl : e_Sn 244 1441 (o_i2l 1442)) t_244_1442 e_congr_i2l
noncomputable def n_244_1439 : e_Y := u_ld f_okI f_l6 n_244_1441
theorem t_244_1439 : e_Sn 244 1439 (e_un n_244_1439) := u_ldIT f_l6_eq (s_iload (i := .iload 6) (len := 2) hq_244 (by decide +kernel) rfl (.inl ⟨rfl, rfl⟩) : e_Sn 244 1439 (o_load e_okI 6 1441)) t_244_1441
noncomputable def n_244_1438 : e_Y := u_ald 2 (u_old (o_aldO 2 1439) n_244_1439) n_244_1439
theorem t_244_1438 : e_Sn 244 1438 (e_un n_244_1438) := u_aldOT (s_lald hq_244 (by decide +kernel) rfl : e_Sn 244 1438 (o_aldO 2 1439)) t_244_1439
noncomputable def n_244_1437 : e_Y := u_push (.inl 2147483648) n_244_1438
theorem t_244_1437 : e_Sn 244 1437 (e_un n_244_1437) := u_pushT (s_iconst (n := (0)) hq_244 (by decide +kernel) rfl ⟨by decide +kernel, by decide +kernel⟩ : e_Sn 244 1437 (o_push (.inl 2147483648) 1438)) t_244_1438
noncomputable def n_244_1436 : e_Y := u_ld f_okA f_l3 n_244_1437
theorem t_244_1436 : e_Sn 244 1436 (e_un n_244_1436) := u_ldAT f_l3_eq (s_aload (i := .aload_n 3) (len := 1) hq_244 (by decide +kernel) rfl (.inr ⟨3, rfl, rfl, rfl⟩) : e_Sn 244 1436 (o_load e_okR 3 1437)) t_244_1437
noncomputable def n_244_1433 : e_Y := u_if y_ne0 (u_old2 (o_ifeq 1436 1448) 1436 n_244_1436 n_244_1448) n_244_1436 n_244_1448
theorem t_244_1433 : e_Sn 244 1433 (e_un n_244_1433) := u_ifeqT rfl (s_ifne (off := (15)) hq_244 (by decide +kernel) rfl rfl : e_Sn 244 1433 (o_ifeq 1436 1448)) t_244_1436 t_244_1448
noncomputable def n_244_1431 : e_Y := u_ld f_okI f_l5 n_244_1433
theorem t_244_1431 : e_Sn 244 1431 (e_un n_244_1431) := u_ldIT f_l5_eq (s_iload (i := .iload 5) (len := 2) hq_244 (by decide +kernel) rfl (.inl ⟨rfl, rfl⟩) : e_Sn 244 1431 (o_load e_okI 5 1433)) t_244_1433
noncomputable def n_244_1426 : e_Y := u_jmp y_ne (u_old2 (o_ceq 1431 1429) 1431 n_244_1431 (u_at 1429)) n_244_1431 (u_at 1429)
theorem t_244_1426 : e_Sn 244 1426 (e_un n_244_1426) := u_ceqT rfl (s_ceq (off := (5)) hq_244 (by decide +kernel) rfl rfl : e_Sn 244 1426 (o_ceq 1431 1429)) t_244_1431 u_atT
noncomputable def n_244_1424 : e_Y := u_ld f_okI f_l5 n_244_1426
theorem t_244_1424 : e_Sn 244 1424 (e_un n_244_1424) := u_ldIT f_l5_eq (s_iload (i := .iload 5) (len := 2) hq_244 (by decide +kernel) rfl (.inl ⟨rfl, rfl⟩) : e_Sn 244 1424 (o_load e_okI 5 1426)) t_244_1426
noncomputable def n_244_1421 : e_Y := u_callV 12 199 1 20 1 n_199_0 n_244_1424
theorem t_244_1421 : e_Sn 244 1421 (e_un n_244_1421) := u_callVT rfl (s_callV (ci := 12) (C := er_12) (T := et_12) (N := 5) (index := 117) hq_244 ho_244 hy_199 hp_199 hc_199 hi_199 hd_199 (List.mem_of_getElem? (i := 1974) (by decide +kernel)) hs_199 (List.mem_of_getElem? (i := 1976) (by decide +kernel)) rfl (by decide +kernel) rfl : e_Sn 244 1421 (o_callV (e_s1 12 199 1) 1 1424)) t_199_0 t_244_1424
noncomputable def n_244_1420 : e_Y := u_ld f_okA f_l2 n_244_1421
theorem t_244_1420 : e_Sn 244 1420 (e_un n_244_1420) := u_ldAT f_l2_eq (s_aload (i := .aload_n 2) (len := 1) hq_244 (by decide +kernel) rfl (.inr ⟨2, rfl, rfl, rfl⟩) : e_Sn 244 1420 (o_load e_okR 2 1421)) t_244_1421
noncomputable def n_244_1418 : e_Y := u_st f_okI f_s6 n_244_1420
theorem t_244_1418 : e_Sn 244 1418 (e_un n_244_1418) := u_stIT (fun _ _ _ => f_s6_eq) (s_istore (i := .istore 6) (len := 2) hq_244 (by decide +kernel) rfl (.inl ⟨rfl, rfl⟩) : e_Sn 244 1418 (o_store e_okI 6 1420)) t_244_1420
noncomputable def n_244_1415 : e_Y := u_callV 12 177 4 23 4 n_177_0 n_244_1418
theorem t_244_1415 : e_Sn 244 1415 (e_un n_244_1415) := u_callVT rfl (s_callV (ci := 12) (C := er_12) (T := et_12) (N := 5) (index := 195) hq_244 ho_244 hy_177 hp_177 hc_177 hi_177 hd_177 (List.mem_of_getElem? (i := 3015) (by decide +kernel)) hs_177 (List.mem_of_getElem? (i := 3017) (by decide +kernel)) rfl (by decide +kernel) rfl : e_Sn 244 1415 (o_callV (e_s1 12 177 4) 4 1418)) t_177_0 t_244_1418
noncomputable def n_244_1414 : e_Y := u_ald 0 (u_old (o_ald e_fcs 1415) n_244_1415) n_244_1415
theorem t_244_1414 : e_Sn 244 1414 (e_un n_244_1414) := u_aldT (s_iald hq_244 (by decide +kernel) rfl : e_Sn 244 1414 (o_ald e_fcs 1415)) t_244_1415
noncomputable def n_244_1413 : e_Y := u_bin a_iadd (u_old (o_iadd 1414) n_244_1414) n_244_1414
theorem t_244_1413 : e_Sn 244 1413 (e_un n_244_1413) := u_iaddT (s_iadd hq_244 (by decide +kernel) rfl : e_Sn 244 1413 (o_iadd 1414)) t_244_1414
noncomputable def n_244_1412 : e_Y := u_push (.inl 2147483651) n_244_1413
theorem t_244_1412 : e_Sn 244 1412 (e_un n_244_1412) := u_pushT (s_iconst (n := (3)) hq_244 (by decide +kernel) rfl ⟨by decide +kernel, by decide +kernel⟩ : e_Sn 244 1412 (o_push (.inl 2147483651) 1413)) t_244_1413
noncomputable def n_244_1410 : e_Y := u_ld f_okI f_l4 n_244_1412
theorem t_244_1410 : e_Sn 244 1410 (e_un n_244_1410) := u_ldIT f_l4_eq (s_iload (i := .iload 4) (len := 2) hq_244 (by decide +kernel) rfl (.inl ⟨rfl, rfl⟩) : e_Sn 244 1410 (o_load e_okI 4 1412)) t_244_1412
noncomputable def n_244_1409 : e_Y := u_ld f_okA f_l0 n_244_1410
theorem t_244_1409 : e_Sn 244 1409 (e_un n_244_1409) := u_ldAT f_l0_eq (s_aload (i := .aload_n 0) (len := 1) hq_244 (by decide +kernel) rfl (.inr ⟨0, rfl, rfl, rfl⟩) : e_Sn 244 1409 (o_load e_okR 0 1410)) t_244_1410
noncomputable def n_244_1408 : e_Y := u_ald 0 (u_old (o_ald e_fcs 1409) n_244_1409) n_244_1409
theorem t_244_1408 : e_Sn 244 1408 (e_un n_244_1408) := u_aldT (s_iald hq_244 (by decide +kernel) rfl : e_Sn 244 1408 (o_ald e_fcs 1409)) t_244_1409
noncomputable def n_244_1407 : e_Y := u_bin a_iadd (u_old (o_iadd 1408) n_244_1408) n_244_1408
theorem t_244_1407 : e_Sn 244 1407 (e_un n_244_1407) := u_iaddT (s_iadd hq_244 (by decide +kernel) rfl : e_Sn 244 1407 (o_iadd 1408)) t_244_1408
noncomputable def n_244_1406 : e_Y := u_push (.inl 2147483650) n_244_1407
theorem t_244_1406 : e_Sn 244 1406 (e_un n_244_1406) := u_pushT (s_iconst (n := (2)) hq_244 (by decide +kernel) rfl ⟨by decide +kernel, by decide +kernel⟩ : e_Sn 244 1406 (o_push (.inl 2147483650) 1407)) t_244_1407
noncomputable def n_244_1404 : e_Y := u_ld f_okI f_l4 n_244_1406
theorem t_244_1404 : e_Sn 244 1404 (e_un n_244_1404) := u_ldIT f_l4_eq (s_iload (i := .iload 4) (len := 2) hq_244 (by decide +kernel) rfl (.inl ⟨rfl, rfl⟩) : e_Sn 244 1404 (o_load e_okI 4 1406)) t_244_1406
noncomputable def n_244_1403 : e_Y := u_ld f_okA f_l0 n_244_1404
theorem t_244_1403 : e_Sn 244 1403 (e_un n_244_1403) := u_ldAT f_l0_eq (s_aload (i := .aload_n 0) (len := 1) hq_244 (by decide +kernel) rfl (.inr ⟨0, rfl, rfl, rfl⟩) : e_Sn 244 1403 (o_load e_okR 0 1404)) t_244_1404
noncomputable def n_244_1402 : e_Y := u_ald 0 (u_old (o_ald e_fcs 1403) n_244_1403) n_244_1403
theorem t_244_1402 : e_Sn 244 1402 (e_un n_244_1402) := u_aldT (s_iald hq_244 (by decide +kernel) rfl : e_Sn 244 1402 (o_ald e_fcs 1403)) t_244_1403
noncomputable def n_244_1401 : e_Y := u_bin a_iadd (u_old (o_iadd 1402) n_244_1402) n_244_1402
theorem t_244_1401 : e_Sn 244 1401 (e_un n_244_1401) := u_iaddT (s_iadd hq_244 (by decide +kernel) rfl : e_Sn 244 1401 (o_iadd 1402)) t_244_1402
noncomputable def n_244_1400 : e_Y := u_push (.inl 2147483649) n_244_1401
theorem t_244_1400 : e_Sn 244 1400 (e_un n_244_1400) := u_pushT (s_iconst (n := (1)) hq_244 (by decide +kernel) rfl ⟨by decide +kernel, by decide +kernel⟩ : e_Sn 244 1400 (o_push (.inl 2147483649) 1401)) t_244_1401
noncomputable def n_244_1398 : e_Y := u_ld f_okI f_l4 n_244_1400
theorem t_244_1398 : e_Sn 244 1398 (e_un n_244_1398) := u_ldIT f_l4_eq (s_iload (i := .iload 4) (len := 2) hq_244 (by decide +kernel) rfl (.inl ⟨rfl, rfl⟩) : e_Sn 244 1398 (o_load e_okI 4 1400)) t_244_1400
noncomputable def n_244_1397 : e_Y := u_ld f_okA f_l0 n_244_1398
theorem t_244_1397 : e_Sn 244 1397 (e_un n_244_1397) := u_ldAT f_l0_eq (s_aload (i := .aload_n 0) (len := 1) hq_244 (by decide +kernel) rfl (.inr ⟨0, rfl, rfl, rfl⟩) : e_Sn 244 1397 (o_load e_okR 0 1398)) t_244_1398
noncomputable def n_244_1396 : e_Y := u_ld f_okA f_l2 n_244_1397
theorem t_244_1396 : e_Sn 244 1396 (e_un n_244_1396) := u_ldAT f_l2_eq (s_aload (i := .aload_n 2) (len := 1) hq_244 (by decide +kernel) rfl (.inr ⟨2, rfl, rfl, rfl⟩) : e_Sn 244 1396 (o_load e_okR 2 1397)) t_244_1397
noncomputable def n_244_1394 : e_Y := u_st f_okI f_s5 n_244_1396
theorem t_244_1394 : e_Sn 244 1394 (e_un n_244_1394) := u_stIT (fun _ _ _ => f_s5_eq) (s_istore (i := .istore 5) (len := 2) hq_244 (by decide +kernel) rfl (.inl ⟨rfl, rfl⟩) : e_Sn 244 1394 (o_store e_okI 5 1396)) t_244_1396
noncomputable def n_244_1391 : e_Y := u_callS 120 6 25 5 n_120_0 n_244_1394
theorem t_244_1391 : e_Sn 244 1391 (e_un n_244_1391) := u_callST rfl (s_callSW (index := 193) hq_244 ho_244 hy_120 hp_120 hc_120 hi_120 hd_120 (List.mem_of_getElem? (i := 1665) (by decide +kernel)) hs_120 (by decide +kernel) rfl : e_Sn 244 1391 (o_callS 120 6 5 1394)) t_120_0 t_244_1394
noncomputable def n_244_1390 : e_Y := u_ld f_okA f_l3 n_244_1391
theorem t_244_1390 : e_Sn 244 1390 (e_un n_244_1390) := u_ldAT f_l3_eq (s_aload (i := .aload_n 3) (len := 1) hq_244 (by decide +kernel) rfl (.inr ⟨3, rfl, rfl, rfl⟩) : e_Sn 244 1390 (o_load e_okR 3 1391)) t_244_1391
noncomputable def n_244_1389 : e_Y := u_ald 0 (u_old (o_ald e_fcs 1390) n_244_1390) n_244_1390
theorem t_244_1389 : e_Sn 244 1389 (e_un n_244_1389) := u_aldT (s_iald hq_244 (by decide +kernel) rfl : e_Sn 244 1389 (o_ald e_fcs 1390)) t_244_1390
noncomputable def n_244_1388 : e_Y := u_bin a_iadd (u_old (o_iadd 1389) n_244_1389) n_244_1389
theorem t_244_1388 : e_Sn 244 1388 (e_un n_244_1388) := u_iaddT (s_iadd hq_244 (by decide +kernel) rfl : e_Sn 244 1388 (o_iadd 1389)) t_244_1389
noncomputable def n_244_1387 : e_Y := u_push (.inl 2147483651) n_244_1388
theorem t_244_1387 : e_Sn 244 1387 (e_un n_244_1387) := u_pushT (s_iconst (n := (3)) hq_244 (by decide +kernel) rfl ⟨by decide +kernel, by decide +kernel⟩ : e_Sn 244 1387 (o_push (.inl 2147483651) 1388)) t_244_1388
noncomputable def n_244_1385 : e_Y := u_ld f_okI f_l4 n_244_1387
theorem t_244_1385 : e_Sn 244 1385 (e_un n_244_1385) := u_ldIT f_l4_eq (s_iload (i := .iload 4) (len := 2) hq_244 (by decide +kernel) rfl (.inl ⟨rfl, rfl⟩) : e_Sn 244 1385 (o_load e_okI 4 1387)) t_244_1387
noncomputable def n_244_1384 : e_Y := u_ld f_okA f_l0 n_244_1385
theorem t_244_1384 : e_Sn 244 1384 (e_un n_244_1384) := u_ldAT f_l0_eq (s_aload (i := .aload_n 0) (len := 1) hq_244 (by decide +kernel) rfl (.inr ⟨0, rfl, rfl, rfl⟩) : e_Sn 244 1384 (o_load e_okR 0 1385)) t_244_1385
noncomputable def n_244_1383 : e_Y := u_ald 0 (u_old (o_ald e_fcs 1384) n_244_1384) n_244_1384
theorem t_244_1383 : e_Sn 244 1383 (e_un n_244_1383) := u_aldT (s_iald hq_244 (by decide +kernel) rfl : e_Sn 244 1383 (o_ald e_fcs 1384)) t_244_1384
noncomputable def n_244_1382 : e_Y := u_bin a_iadd (u_old (o_iadd 1383) n_244_1383) n_244_1383
theorem t_244_1382 : e_Sn 244 1382 (e_un n_244_1382) := u_iaddT (s_iadd hq_244 (by decide +kernel) rfl : e_Sn 244 1382 (o_iadd 1383)) t_244_1383
noncomputable def n_244_1381 : e_Y := u_push (.inl 2147483650) n_244_1382
theorem t_244_1381 : e_Sn 244 1381 (e_un n_244_1381) := u_pushT (s_iconst (n := (2)) hq_244 (by decide +kernel) rfl ⟨by decide +kernel, by decide +kernel⟩ : e_Sn 244 1381 (o_push (.inl 2147483650) 1382)) t_244_1382
noncomputable def n_244_1379 : e_Y := u_ld f_okI f_l4 n_244_1381
theorem t_244_1379 : e_Sn 244 1379 (e_un n_244_1379) := u_ldIT f_l4_eq (s_iload (i := .iload 4) (len := 2) hq_244 (by decide +kernel) rfl (.inl ⟨rfl, rfl⟩) : e_Sn 244 1379 (o_load e_okI 4 1381)) t_244_1381
noncomputable def n_244_1378 : e_Y := u_ld f_okA f_l0 n_244_1379
theorem t_244_1378 : e_Sn 244 1378 (e_un n_244_1378) := u_ldAT f_l0_eq (s_aload (i := .aload_n 0) (len := 1) hq_244 (by decide +kernel) rfl (.inr ⟨0, rfl, rfl, rfl⟩) : e_Sn 244 1378 (o_load e_okR 0 1379)) t_244_1379
noncomputable def n_244_1377 : e_Y := u_ald 0 (u_old (o_ald e_fcs 1378) n_244_1378) n_244_1378
theorem t_244_1377 : e_Sn 244 1377 (e_un n_244_1377) := u_aldT (s_iald hq_244 (by decide +kernel) rfl : e_Sn 244 1377 (o_ald e_fcs 1378)) t_244_1378
noncomputable def n_244_1376 : e_Y := u_bin a_iadd (u_old (o_iadd 1377) n_244_1377) n_244_1377
theorem t_244_1376 : e_Sn 244 1376 (e_un n_244_1376) := u_iaddT (s_iadd hq_244 (by decide +kernel) rfl : e_Sn 244 1376 (o_iadd 1377)) t_244_1377
noncomputable def n_244_1375 : e_Y := u_push (.inl 2147483649) n_244_1376
theorem t_244_1375 : e_Sn 244 1375 (e_un n_244_1375) := u_pushT (s_iconst (n := (1)) hq_244 (by decide +kernel) rfl ⟨by decide +kernel, by decide +kernel⟩ : e_Sn 244 1375 (o_push (.inl 2147483649) 1376)) t_244_1376
noncomputable def n_244_1373 : e_Y := u_ld f_okI f_l4 n_244_1375
theorem t_244_1373 : e_Sn 244 1373 (e_un n_244_1373) := u_ldIT f_l4_eq (s_iload (i := .iload 4) (len := 2) hq_244 (by decide +kernel) rfl (.inl ⟨rfl, rfl⟩) : e_Sn 244 1373 (o_load e_okI 4 1375)) t_244_1375
noncomputable def n_244_1372 : e_Y := u_ld f_okA f_l0 n_244_1373
theorem t_244_1372 : e_Sn 244 1372 (e_un n_244_1372) := u_ldAT f_l0_eq (s_aload (i := .aload_n 0) (len := 1) hq_244 (by decide +kernel) rfl (.inr ⟨0, rfl, rfl, rfl⟩) : e_Sn 244 1372 (o_load e_okR 0 1373)) t_244_1373
noncomputable def n_244_1371 : e_Y := u_ld f_okA f_l1 n_244_1372
theorem t_244_1371 : e_Sn 244 1371 (e_un n_244_1371) := u_ldAT f_l1_eq (s_aload (i := .aload_n 1) (len := 1) hq_244 (by decide +kernel) rfl (.inr ⟨1, rfl, rfl, rfl⟩) : e_Sn 244 1371 (o_load e_okR 1 1372)) t_244_1372
noncomputable def n_244_1368 : e_Y := n_244_2235
theorem t_244_1368 : e_Sn 244 1368 (e_un n_244_1368) := u_gotoT (s_goto (off := (867)) hq_244 (by decide +kernel) rfl : e_Sn 244 1368 (o_goto 2235)) t_244_2235
noncomputable def n_244_1363 : e_Y := u_if y_ne0 (u_old2 (o_ifeq 1368 1366) 1368 n_244_1368 (u_at 1366)) n_244_1368 (u_at 1366)
theorem t_244_1363 : e_Sn 244 1363 (e_un n_244_1363) := u_ifeqT rfl (s_ifeq (off := (5)) hq_244 (by decide +kernel) rfl rfl : e_Sn 244 1363 (o_ifeq 1368 1366)) t_244_1368 u_atT
noncomputable def n_244_1362 : e_Y := u_old (o_lcmp 1363) n_244_1363
theorem t_244_1362 : e_Sn 244 1362 (e_un n_244_1362) := u_oldT (s_lcmp hq_244 (by decide +kernel) rfl : e_Sn 244 1362 (o_lcmp 1363)) t_244_1363 e_cg_lcmp
noncomputable def n_244_1361 : e_Y := u_old (o_i2l 1362) n_244_1362
theorem t_244_1361 : e_Sn 244 1361 (e_un n_244_1361) := u_oldT (s_i2l hq_244 (by decide +kernel) rfl : e_Sn 244 1361 (o_i2l 1362)) t_244_1362 e_congr_i2l
noncomputable def n_244_1359 : e_Y := u_ld f_okI f_l6 n_244_1361
theorem t_244_1359 : e_Sn 244 1359 (e_un n_244_1359) := u_ldIT f_l6_eq (s_iload (i := .iload 6) (len := 2) hq_244 (by decide +kernel) rfl (.inl ⟨rfl, rfl⟩) : e_Sn 244 1359 (o_load e_okI 6 1361)) t_244_1361
noncomputable def n_244_1358 : e_Y := u_ald 2 (u_old (o_aldO 2 1359) n_244_1359) n_244_1359
theorem t_244_1358 : e_Sn 244 1358 (e_un n_244_1358) := u_aldOT (s_lald hq_244 (by decide +kernel) rfl : e_Sn 244 1358 (o_aldO 2 1359)) t_244_1359
noncomputable def n_244_1357 : e_Y := u_push (.inl 2147483648) n_244_1358
theorem t_244_1357 : e_Sn 244 1357 (e_un n_244_1357) := u_pushT (s_iconst (n := (0)) hq_244 (by decide +kernel) rfl ⟨by decide +kernel, by decide +kernel⟩ : e_Sn 244 1357 (o_push (.inl 2147483648) 1358)) t_244_1358
noncomputable def n_244_1356 : e_Y := u_ld f_okA f_l3 n_244_1357
theorem t_244_1356 : e_Sn 244 1356 (e_un n_244_1356) := u_ldAT f_l3_eq (s_aload (i := .aload_n 3) (len := 1) hq_244 (by decide +kernel) rfl (.inr ⟨3, rfl, rfl, rfl⟩) : e_Sn 244 1356 (o_load e_okR 3 1357)) t_244_1357
noncomputable def n_244_1353 : e_Y := u_if y_ne0 (u_old2 (o_ifeq 1356 1368) 1356 n_244_1356 n_244_1368) n_244_1356 n_244_1368
theorem t_244_1353 : e_Sn 244 1353 (e_un n_244_1353) := u_ifeqT rfl (s_ifne (off := (15)) hq_244 (by decide +kernel) rfl rfl : e_Sn 244 1353 (o_ifeq 1356 1368)) t_244_1356 t_244_1368
noncomputable def n_244_1351 : e_Y := u_ld f_okI f_l5 n_244_1353
theorem t_244_1351 : e_Sn 244 1351 (e_un n_244_1351) := u_ldIT f_l5_eq (s_iload (i := .iload 5) (len := 2) hq_244 (by decide +kernel) rfl (.inl ⟨rfl, rfl⟩) : e_Sn 244 1351 (o_load e_okI 5 1353)) t_244_1353
noncomputable def n_244_1346 : e_Y := u_jmp y_ne (u_old2 (o_ceq 1351 1349) 1351 n_244_1351 (u_at 1349)) n_244_1351 (u_at 1349)
theorem t_244_1346 : e_Sn 244 1346 (e_un n_244_1346) := u_ceqT rfl (s_ceq (off := (5)) hq_244 (by decide +kernel) rfl rfl : e_Sn 244 1346 (o_ceq 1351 1349)) t_244_1351 u_atT
noncomputable def n_244_1344 : e_Y := u_ld f_okI f_l5 n_244_1346
theorem t_244_1344 : e_Sn 244 1344 (e_un n_244_1344) := u_ldIT f_l5_eq (s_iload (i := .iload 5) (len := 2) hq_244 (by decide +kernel) rfl (.inl ⟨rfl, rfl⟩) : e_Sn 244 1344 (o_load e_okI 5 1346)) t_244_1346
noncomputable def n_244_1341 : e_Y := u_callV 12 199 1 20 1 n_199_0 n_244_1344
theorem t_244_1341 : e_Sn 244 1341 (e_un n_244_1341) := u_callVT rfl (s_callV (ci := 12) (C := er_12) (T := et_12) (N := 5) (index := 117) hq_244 ho_244 hy_199 hp_199 hc_199 hi_199 hd_199 (List.mem_of_getElem? (i := 1974) (by decide +kernel)) hs_199 (List.mem_of_getElem? (i := 1976) (by decide +kernel)) rfl (by decide +kernel) rfl : e_Sn 244 1341 (o_callV (e_s1 12 199 1) 1 1344)) t_199_0 t_244_1344
noncomputable def n_244_1340 : e_Y := u_ld f_okA f_l2 n_244_1341
theorem t_244_1340 : e_Sn 244 1340 (e_un n_244_1340) := u_ldAT f_l2_eq (s_aload (i := .aload_n 2) (len := 1) hq_244 (by decide +kernel) rfl (.inr ⟨2, rfl, rfl, rfl⟩) : e_Sn 244 1340 (o_load e_okR 2 1341)) t_244_1341
noncomputable def n_244_1338 : e_Y := u_st f_okI f_s6 n_244_1340
theorem t_244_1338 : e_Sn 244 1338 (e_un n_244_1338) := u_stIT (fun _ _ _ => f_s6_eq) (s_istore (i := .istore 6) (len := 2) hq_244 (by decide +kernel) rfl (.inl ⟨rfl, rfl⟩) : e_Sn 244 1338 (o_store e_okI 6 1340)) t_244_1340
noncomputable def n_244_1335 : e_Y := u_callV 12 147 2 21 2 n_147_0 n_244_1338
theorem t_244_1335 : e_Sn 244 1335 (e_un n_244_1335) := u_callVT rfl (s_callV (ci := 12) (C := er_12) (T := et_12) (N := 5) (index := 192) hq_244 ho_244 hy_147 hp_147 hc_147 hi_147 hd_147 (List.mem_of_getElem? (i := 3010) (by decide +kernel)) hs_147 (List.mem_of_getElem? (i := 3012) (by decide +kernel)) rfl (by decide +kernel) rfl : e_Sn 244 1335 (o_callV (e_s1 12 147 2) 2 1338)) t_147_0 t_244_1338
noncomputable def n_244_1334 : e_Y := u_ald 0 (u_old (o_ald e_fcs 1335) n_244_1335) n_244_1335
theorem t_244_1334 : e_Sn 244 1334 (e_un n_244_1334) := u_aldT (s_iald hq_244 (by decide +kernel) rfl : e_Sn 244 1334 (o_ald e_fcs 1335)) t_244_1335
noncomputable def n_244_1333 : e_Y := u_bin a_iadd (u_old (o_iadd 1334) n_244_1334) n_244_1334
theorem t_244_1333 : e_Sn 244 1333 (e_un n_244_1333) := u_iaddT (s_iadd hq_244 (by decide +kernel) rfl : e_Sn 244 1333 (o_iadd 1334)) t_244_1334
noncomputable def n_244_1332 : e_Y := u_push (.inl 2147483649) n_244_1333
theorem t_244_1332 : e_Sn 244 1332 (e_un n_244_1332) := u_pushT (s_iconst (n := (1)) hq_244 (by decide +kernel) rfl ⟨by decide +kernel, by decide +kernel⟩ : e_Sn 244 1332 (o_push (.inl 2147483649) 1333)) t_244_1333
noncomputable def n_244_1330 : e_Y := u_ld f_okI f_l4 n_244_1332
theorem t_244_1330 : e_Sn 244 1330 (e_un n_244_1330) := u_ldIT f_l4_eq (s_iload (i := .iload 4) (len := 2) hq_244 (by decide +kernel) rfl (.inl ⟨rfl, rfl⟩) : e_Sn 244 1330 (o_load e_okI 4 1332)) t_244_1332
noncomputable def n_244_1329 : e_Y := u_ld f_okA f_l0 n_244_1330
theorem t_244_1329 : e_Sn 244 1329 (e_un n_244_1329) := u_ldAT f_l0_eq (s_aload (i := .aload_n 0) (len := 1) hq_244 (by decide +kernel) rfl (.inr ⟨0, rfl, rfl, rfl⟩) : e_Sn 244 1329 (o_load e_okR 0 1330)) t_244_1330
noncomputable def n_244_1328 : e_Y := u_ld f_okA f_l2 n_244_1329
theorem t_244_1328 : e_Sn 244 1328 (e_un n_244_1328) := u_ldAT f_l2_eq (s_aload (i := .aload_n 2) (len := 1) hq_244 (by decide +kernel) rfl (.inr ⟨2, rfl, rfl, rfl⟩) : e_Sn 244 1328 (o_load e_okR 2 1329)) t_244_1329
noncomputable def n_244_1326 : e_Y := u_st f_okI f_s5 n_244_1328
theorem t_244_1326 : e_Sn 244 1326 (e_un n_244_1326) := u_stIT (fun _ _ _ => f_s5_eq) (s_istore (i := .istore 5) (len := 2) hq_244 (by decide +kernel) rfl (.inl ⟨rfl, rfl⟩) : e_Sn 244 1326 (o_store e_okI 5 1328)) t_244_1328
noncomputable def n_244_1323 : e_Y := u_callS 109 4 23 3 n_109_0 n_244_1326
theorem t_244_1323 : e_Sn 244 1323 (e_un n_244_1323) := u_callST rfl (s_callSW (index := 190) hq_244 ho_244 hy_109 hp_109 hc_109 hi_109 hd_109 (List.mem_of_getElem? (i := 1661) (by decide +kernel)) hs_109 (by decide +kernel) rfl : e_Sn 244 1323 (o_callS 109 4 3 1326)) t_109_0 t_244_1326
noncomputable def n_244_1322 : e_Y := u_ld f_okA f_l3 n_244_1323
theorem t_244_1322 : e_Sn 244 1322 (e_un n_244_1322) := u_ldAT f_l3_eq (s_aload (i := .aload_n 3) (len := 1) hq_244 (by decide +kernel) rfl (.inr ⟨3, rfl, rfl, rfl⟩) : e_Sn 244 1322 (o_load e_okR 3 1323)) t_244_1323
noncomputable def n_244_1321 : e_Y := u_ald 0 (u_old (o_ald e_fcs 1322) n_244_1322) n_244_1322
theorem t_244_1321 : e_Sn 244 1321 (e_un n_244_1321) := u_aldT (s_iald hq_244 (by decide +kernel) rfl : e_Sn 244 1321 (o_ald e_fcs 1322)) t_244_1322
noncomputable def n_244_1320 : e_Y := u_bin a_iadd (u_old (o_iadd 1321) n_244_1321) n_244_1321
theorem t_244_1320 : e_Sn 244 1320 (e_un n_244_1320) := u_iaddT (s_iadd hq_244 (by decide +kernel) rfl : e_Sn 244 1320 (o_iadd 1321)) t_244_1321
noncomputable def n_244_1319 : e_Y := u_push (.inl 2147483649) n_244_1320
theorem t_244_1319 : e_Sn 244 1319 (e_un n_244_1319) := u_pushT (s_iconst (n := (1)) hq_244 (by decide +kernel) rfl ⟨by decide +kernel, by decide +kernel⟩ : e_Sn 244 1319 (o_push (.inl 2147483649) 1320)) t_244_1320
noncomputable def n_244_1317 : e_Y := u_ld f_okI f_l4 n_244_1319
theorem t_244_1317 : e_Sn 244 1317 (e_un n_244_1317) := u_ldIT f_l4_eq (s_iload (i := .iload 4) (len := 2) hq_244 (by decide +kernel) rfl (.inl ⟨rfl, rfl⟩) : e_Sn 244 1317 (o_load e_okI 4 1319)) t_244_1319
noncomputable def n_244_1316 : e_Y := u_ld f_okA f_l0 n_244_1317
theorem t_244_1316 : e_Sn 244 1316 (e_un n_244_1316) := u_ldAT f_l0_eq (s_aload (i := .aload_n 0) (len := 1) hq_244 (by decide +kernel) rfl (.inr ⟨0, rfl, rfl, rfl⟩) : e_Sn 244 1316 (o_load e_okR 0 1317)) t_244_1317
noncomputable def n_244_1315 : e_Y := u_ld f_okA f_l1 n_244_1316
theorem t_244_1315 : e_Sn 244 1315 (e_un n_244_1315) := u_ldAT f_l1_eq (s_aload (i := .aload_n 1) (len := 1) hq_244 (by decide +kernel) rfl (.inr ⟨1, rfl, rfl, rfl⟩) : e_Sn 244 1315 (o_load e_okR 1 1316)) t_244_1316
noncomputable def n_244_1312 : e_Y := n_244_2235
theorem t_244_1312 : e_Sn 244 1312 (e_un n_244_1312) := u_gotoT (s_goto (off := (923)) hq_244 (by decide +kernel) rfl : e_Sn 244 1312 (o_goto 2235)) t_244_2235
noncomputable def n_244_1307 : e_Y := u_if y_ne0 (u_old2 (o_ifeq 1312 1310) 1312 n_244_1312 (u_at 1310)) n_244_1312 (u_at 1310)
theorem t_244_1307 : e_Sn 244 1307 (e_un n_244_1307) := u_ifeqT rfl (s_ifeq (off := (5)) hq_244 (by decide +kernel) rfl rfl : e_Sn 244 1307 (o_ifeq 1312 1310)) t_244_1312 u_atT
noncomputable def n_244_1306 : e_Y := u_old (o_lcmp 1307) n_244_1307
theorem t_244_1306 : e_Sn 244 1306 (e_un n_244_1306) := u_oldT (s_lcmp hq_244 (by decide +kernel) rfl : e_Sn 244 1306 (o_lcmp 1307)) t_244_1307 e_cg_lcmp
noncomputable def n_244_1305 : e_Y := u_push (e_L 9223372036854775808) n_244_1306
theorem t_244_1305 : e_Sn 244 1305 (e_un n_244_1305) := u_pushT (s_lconst (n := 0) hq_244 (by decide +kernel) rfl ⟨by decide +kernel, by decide +kernel⟩ : e_Sn 244 1305 (o_push (e_L 9223372036854775808) 1306)) t_244_1306
noncomputable def n_244_1298 : e_Y := u_if y_ne0 (u_old2 (o_ifeq 1305 1301) 1305 n_244_1305 (u_at 1301)) n_244_1305 (u_at 1301)
theorem t_244_1298 : e_Sn 244 1298 (e_un n_244_1298) := u_ifeqT rfl (s_ifeq (off := (7)) hq_244 (by decide +kernel) rfl rfl : e_Sn 244 1298 (o_ifeq 1305 1301)) t_244_1305 u_atT
noncomputable def n_244_1296 : e_Y := u_ld f_okI f_l6 n_244_1298
theorem t_244_1296 : e_Sn 244 1296 (e_un n_244_1296) := u_ldIT f_l6_eq (s_iload (i := .iload 6) (len := 2) hq_244 (by decide +kernel) rfl (.inl ⟨rfl, rfl⟩) : e_Sn 244 1296 (o_load e_okI 6 1298)) t_244_1298
noncomputable def n_244_1295 : e_Y := u_ald 2 (u_old (o_aldO 2 1296) n_244_1296) n_244_1296
theorem t_244_1295 : e_Sn 244 1295 (e_un n_244_1295) := u_aldOT (s_lald hq_244 (by decide +kernel) rfl : e_Sn 244 1295 (o_aldO 2 1296)) t_244_1296
noncomputable def n_244_1294 : e_Y := u_push (.inl 2147483648) n_244_1295
theorem t_244_1294 : e_Sn 244 1294 (e_un n_244_1294) := u_pushT (s_iconst (n := (0)) hq_244 (by decide +kernel) rfl ⟨by decide +kernel, by decide +kernel⟩ : e_Sn 244 1294 (o_push (.inl 2147483648) 1295)) t_244_1295
noncomputable def n_244_1293 : e_Y := u_ld f_okA f_l3 n_244_1294
theorem t_244_1293 : e_Sn 244 1293 (e_un n_244_1293) := u_ldAT f_l3_eq (s_aload (i := .aload_n 3) (len := 1) hq_244 (by decide +kernel) rfl (.inr ⟨3, rfl, rfl, rfl⟩) : e_Sn 244 1293 (o_load e_okR 3 1294)) t_244_1294
noncomputable def n_244_1290 : e_Y := u_if y_ne0 (u_old2 (o_ifeq 1293 1312) 1293 n_244_1293 n_244_1312) n_244_1293 n_244_1312
theorem t_244_1290 : e_Sn 244 1290 (e_un n_244_1290) := u_ifeqT rfl (s_ifne (off := (22)) hq_244 (by decide +kernel) rfl rfl : e_Sn 244 1290 (o_ifeq 1293 1312)) t_244_1293 t_244_1312
noncomputable def n_244_1288 : e_Y := u_ld f_okI f_l5 n_244_1290
theorem t_244_1288 : e_Sn 244 1288 (e_un n_244_1288) := u_ldIT f_l5_eq (s_iload (i := .iload 5) (len := 2) hq_244 (by decide +kernel) rfl (.inl ⟨rfl, rfl⟩) : e_Sn 244 1288 (o_load e_okI 5 1290)) t_244_1290
noncomputable def n_244_1283 : e_Y := u_jmp y_ne (u_old2 (o_ceq 1288 1286) 1288 n_244_1288 (u_at 1286)) n_244_1288 (u_at 1286)
theorem t_244_1283 : e_Sn 244 1283 (e_un n_244_1283) := u_ceqT rfl (s_ceq (off := (5)) hq_244 (by decide +kernel) rfl rfl : e_Sn 244 1283 (o_ceq 1288 1286)) t_244_1288 u_atT
noncomputable def n_244_1281 : e_Y := u_ld f_okI f_l5 n_244_1283
theorem t_244_1281 : e_Sn 244 1281 (e_un n_244_1281) := u_ldIT f_l5_eq (s_iload (i := .iload 5) (len := 2) hq_244 (by decide +kernel) rfl (.inl ⟨rfl, rfl⟩) : e_Sn 244 1281 (o_load e_okI 5 1283)) t_244_1283
noncomputable def n_244_1278 : e_Y := u_callV 12 199 1 20 1 n_199_0 n_244_1281
theorem t_244_1278 : e_Sn 244 1278 (e_un n_244_1278) := u_callVT rfl (s_callV (ci := 12) (C := er_12) (T := et_12) (N := 5) (index := 117) hq_244 ho_244 hy_199 hp_199 hc_199 hi_199 hd_199 (List.mem_of_getElem? (i := 1974) (by decide +kernel)) hs_199 (List.mem_of_getElem? (i := 1976) (by decide +kernel)) rfl (by decide +kernel) rfl : e_Sn 244 1278 (o_callV (e_s1 12 199 1) 1 1281)) t_199_0 t_244_1281
noncomputable def n_244_1277 : e_Y := u_ld f_okA f_l2 n_244_1278
theorem t_244_1277 : e_Sn 244 1277 (e_un n_244_1277) := u_ldAT f_l2_eq (s_aload (i := .aload_n 2) (len := 1) hq_244 (by decide +kernel) rfl (.inr ⟨2, rfl, rfl, rfl⟩) : e_Sn 244 1277 (o_load e_okR 2 1278)) t_244_1278
noncomputable def n_244_1275 : e_Y := u_st f_okI f_s6 n_244_1277
theorem t_244_1275 : e_Sn 244 1275 (e_un n_244_1275) := u_stIT (fun _ _ _ => f_s6_eq) (s_istore (i := .istore 6) (len := 2) hq_244 (by decide +kernel) rfl (.inl ⟨rfl, rfl⟩) : e_Sn 244 1275 (o_store e_okI 6 1277)) t_244_1277
noncomputable def n_244_1272 : e_Y := u_callV 12 158 4 23 4 n_158_0 n_244_1275
theorem t_244_1272 : e_Sn 244 1272 (e_un n_244_1272) := u_callVT rfl (s_callV (ci := 12) (C := er_12) (T := et_12) (N := 5) (index := 189) hq_244 ho_244 hy_158 hp_158 hc_158 hi_158 hd_158 (List.mem_of_getElem? (i := 3002) (by decide +kernel)) hs_158 (List.mem_of_getElem? (i := 3004) (by decide +kernel)) rfl (by decide +kernel) rfl : e_Sn 244 1272 (o_callV (e_s1 12 158 4) 4 1275)) t_158_0 t_244_1275
noncomputable def n_244_1271 : e_Y := u_ald 0 (u_old (o_ald e_fcs 1272) n_244_1272) n_244_1272
theorem t_244_1271 : e_Sn 244 1271 (e_un n_244_1271) := u_aldT (s_iald hq_244 (by decide +kernel) rfl : e_Sn 244 1271 (o_ald e_fcs 1272)) t_244_1272
noncomputable def n_244_1270 : e_Y := u_bin a_iadd (u_old (o_iadd 1271) n_244_1271) n_244_1271
theorem t_244_1270 : e_Sn 244 1270 (e_un n_244_1270) := u_iaddT (s_iadd hq_244 (by decide +kernel) rfl : e_Sn 244 1270 (o_iadd 1271)) t_244_1271
noncomputable def n_244_1269 : e_Y := u_push (.inl 2147483651) n_244_1270
theorem t_244_1269 : e_Sn 244 1269 (e_un n_244_1269) := u_pushT (s_iconst (n := (3)) hq_244 (by decide +kernel) rfl ⟨by decide +kernel, by decide +kernel⟩ : e_Sn 244 1269 (o_push (.inl 2147483651) 1270)) t_244_1270
noncomputable def n_244_1267 : e_Y := u_ld f_okI f_l4 n_244_1269
theorem t_244_1267 : e_Sn 244 1267 (e_un n_244_1267) := u_ldIT f_l4_eq (s_iload (i := .iload 4) (len := 2) hq_244 (by decide +kernel) rfl (.inl ⟨rfl, rfl⟩) : e_Sn 244 1267 (o_load e_okI 4 1269)) t_244_1269
noncomputable def n_244_1266 : e_Y := u_ld f_okA f_l0 n_244_1267
theorem t_244_1266 : e_Sn 244 1266 (e_un n_244_1266) := u_ldAT f_l0_eq (s_aload (i := .aload_n 0) (len := 1) hq_244 (by decide +kernel) rfl (.inr ⟨0, rfl, rfl, rfl⟩) : e_Sn 244 1266 (o_load e_okR 0 1267)) t_244_1267
noncomputable def n_244_1265 : e_Y := u_ald 0 (u_old (o_ald e_fcs 1266) n_244_1266) n_244_1266
theorem t_244_1265 : e_Sn 244 1265 (e_un n_244_1265) := u_aldT (s_iald hq_244 (by decide +kernel) rfl : e_Sn 244 1265 (o_ald e_fcs 1266)) t_244_1266
noncomputable def n_244_1264 : e_Y := u_bin a_iadd (u_old (o_iadd 1265) n_244_1265) n_244_1265
theorem t_244_1264 : e_Sn 244 1264 (e_un n_244_1264) := u_iaddT (s_iadd hq_244 (by decide +kernel) rfl : e_Sn 244 1264 (o_iadd 1265)) t_244_1265
noncomputable def n_244_1263 : e_Y := u_push (.inl 2147483650) n_244_1264
theorem t_244_1263 : e_Sn 244 1263 (e_un n_244_1263) := u_pushT (s_iconst (n := (2)) hq_244 (by decide +kernel) rfl ⟨by decide +kernel, by decide +kernel⟩ : e_Sn 244 1263 (o_push (.inl 2147483650) 1264)) t_244_1264
noncomputable def n_244_1261 : e_Y := u_ld f_okI f_l4 n_244_1263
theorem t_244_1261 : e_Sn 244 1261 (e_un n_244_1261) := u_ldIT f_l4_eq (s_iload (i := .iload 4) (len := 2) hq_244 (by decide +kernel) rfl (.inl ⟨rfl, rfl⟩) : e_Sn 244 1261 (o_load e_okI 4 1263)) t_244_1263
noncomputable def n_244_1260 : e_Y := u_ld f_okA f_l0 n_244_1261
theorem t_244_1260 : e_Sn 244 1260 (e_un n_244_1260) := u_ldAT f_l0_eq (s_aload (i := .aload_n 0) (len := 1) hq_244 (by decide +kernel) rfl (.inr ⟨0, rfl, rfl, rfl⟩) : e_Sn 244 1260 (o_load e_okR 0 1261)) t_244_1261
noncomputable def n_244_1259 : e_Y := u_ald 0 (u_old (o_ald e_fcs 1260) n_244_1260) n_244_1260
theorem t_244_1259 : e_Sn 244 1259 (e_un n_244_1259) := u_aldT (s_iald hq_244 (by decide +kernel) rfl : e_Sn 244 1259 (o_ald e_fcs 1260)) t_244_1260
noncomputable def n_244_1258 : e_Y := u_bin a_iadd (u_old (o_iadd 1259) n_244_1259) n_244_1259
theorem t_244_1258 : e_Sn 244 1258 (e_un n_244_1258) := u_iaddT (s_iadd hq_244 (by decide +kernel) rfl : e_Sn 244 1258 (o_iadd 1259)) t_244_1259
noncomputable def n_244_1257 : e_Y := u_push (.inl 2147483649) n_244_1258
theorem t_244_1257 : e_Sn 244 1257 (e_un n_244_1257) := u_pushT (s_iconst (n := (1)) hq_244 (by decide +kernel) rfl ⟨by decide +kernel, by decide +kernel⟩ : e_Sn 244 1257 (o_push (.inl 2147483649) 1258)) t_244_1258
noncomputable def n_244_1255 : e_Y := u_ld f_okI f_l4 n_244_1257
theorem t_244_1255 : e_Sn 244 1255 (e_un n_244_1255) := u_ldIT f_l4_eq (s_iload (i := .iload 4) (len := 2) hq_244 (by decide +kernel) rfl (.inl ⟨rfl, rfl⟩) : e_Sn 244 1255 (o_load e_okI 4 1257)) t_244_1257
noncomputable def n_244_1254 : e_Y := u_ld f_okA f_l0 n_244_1255
theorem t_244_1254 : e_Sn 244 1254 (e_un n_244_1254) := u_ldAT f_l0_eq (s_aload (i := .aload_n 0) (len := 1) hq_244 (by decide +kernel) rfl (.inr ⟨0, rfl, rfl, rfl⟩) : e_Sn 244 1254 (o_load e_okR 0 1255)) t_244_1255
noncomputable def n_244_1253 : e_Y := u_ld f_okA f_l2 n_244_1254
theorem t_244_1253 : e_Sn 244 1253 (e_un n_244_1253) := u_ldAT f_l2_eq (s_aload (i := .aload_n 2) (len := 1) hq_244 (by decide +kernel) rfl (.inr ⟨2, rfl, rfl, rfl⟩) : e_Sn 244 1253 (o_load e_okR 2 1254)) t_244_1254
noncomputable def n_244_1251 : e_Y := u_st f_okI f_s5 n_244_1253
theorem t_244_1251 : e_Sn 244 1251 (e_un n_244_1251) := u_stIT (fun _ _ _ => f_s5_eq) (s_istore (i := .istore 5) (len := 2) hq_244 (by decide +kernel) rfl (.inl ⟨rfl, rfl⟩) : e_Sn 244 1251 (o_store e_okI 5 1253)) t_244_1253
noncomputable def n_244_1248 : e_Y := u_callS 115 6 25 5 n_115_0 n_244_1251
theorem t_244_1248 : e_Sn 244 1248 (e_un n_244_1248) := u_callST rfl (s_callSW (index := 187) hq_244 ho_244 hy_115 hp_115 hc_115 hi_115 hd_115 (List.mem_of_getElem? (i := 1654) (by decide +kernel)) hs_115 (by decide +kernel) rfl : e_Sn 244 1248 (o_callS 115 6 5 1251)) t_115_0 t_244_1251
noncomputable def n_244_1247 : e_Y := u_ld f_okA f_l3 n_244_1248
theorem t_244_1247 : e_Sn 244 1247 (e_un n_244_1247) := u_ldAT f_l3_eq (s_aload (i := .aload_n 3) (len := 1) hq_244 (by decide +kernel) rfl (.inr ⟨3, rfl, rfl, rfl⟩) : e_Sn 244 1247 (o_load e_okR 3 1248)) t_244_1248
noncomputable def n_244_1246 : e_Y := u_ald 0 (u_old (o_ald e_fcs 1247) n_244_1247) n_244_1247
theorem t_244_1246 : e_Sn 244 1246 (e_un n_244_1246) := u_aldT (s_iald hq_244 (by decide +kernel) rfl : e_Sn 244 1246 (o_ald e_fcs 1247)) t_244_1247
noncomputable def n_244_1245 : e_Y := u_bin a_iadd (u_old (o_iadd 1246) n_244_1246) n_244_1246
theorem t_244_1245 : e_Sn 244 1245 (e_un n_244_1245) := u_iaddT (s_iadd hq_244 (by decide +kernel) rfl : e_Sn 244 1245 (o_iadd 1246)) t_244_1246
noncomputable def n_244_1244 : e_Y := u_push (.inl 2147483651) n_244_1245
theorem t_244_1244 : e_Sn 244 1244 (e_un n_244_1244) := u_pushT (s_iconst (n := (3)) hq_244 (by decide +kernel) rfl ⟨by decide +kernel, by decide +kernel⟩ : e_Sn 244 1244 (o_push (.inl 2147483651) 1245)) t_244_1245
noncomputable def n_244_1242 : e_Y := u_ld f_okI f_l4 n_244_1244
theorem t_244_1242 : e_Sn 244 1242 (e_un n_244_1242) := u_ldIT f_l4_eq (s_iload (i := .iload 4) (len := 2) hq_244 (by decide +kernel) rfl (.inl ⟨rfl, rfl⟩) : e_Sn 244 1242 (o_load e_okI 4 1244)) t_244_1244
noncomputable def n_244_1241 : e_Y := u_ld f_okA f_l0 n_244_1242
theorem t_244_1241 : e_Sn 244 1241 (e_un n_244_1241) := u_ldAT f_l0_eq (s_aload (i := .aload_n 0) (len := 1) hq_244 (by decide +kernel) rfl (.inr ⟨0, rfl, rfl, rfl⟩) : e_Sn 244 1241 (o_load e_okR 0 1242)) t_244_1242
noncomputable def n_244_1240 : e_Y := u_ald 0 (u_old (o_ald e_fcs 1241) n_244_1241) n_244_1241
theorem t_244_1240 : e_Sn 244 1240 (e_un n_244_1240) := u_aldT (s_iald hq_244 (by decide +kernel) rfl : e_Sn 244 1240 (o_ald e_fcs 1241)) t_244_1241
noncomputable def n_244_1239 : e_Y := u_bin a_iadd (u_old (o_iadd 1240) n_244_1240) n_244_1240
theorem t_244_1239 : e_Sn 244 1239 (e_un n_244_1239) := u_iaddT (s_iadd hq_244 (by decide +kernel) rfl : e_Sn 244 1239 (o_iadd 1240)) t_244_1240
noncomputable def n_244_1238 : e_Y := u_push (.inl 2147483650) n_244_1239
theorem t_244_1238 : e_Sn 244 1238 (e_un n_244_1238) := u_pushT (s_iconst (n := (2)) hq_244 (by decide +kernel) rfl ⟨by decide +kernel, by decide +kernel⟩ : e_Sn 244 1238 (o_push (.inl 2147483650) 1239)) t_244_1239
noncomputable def n_244_1236 : e_Y := u_ld f_okI f_l4 n_244_1238
theorem t_244_1236 : e_Sn 244 1236 (e_un n_244_1236) := u_ldIT f_l4_eq (s_iload (i := .iload 4) (len := 2) hq_244 (by decide +kernel) rfl (.inl ⟨rfl, rfl⟩) : e_Sn 244 1236 (o_load e_okI 4 1238)) t_244_1238
noncomputable def n_244_1235 : e_Y := u_ld f_okA f_l0 n_244_1236
theorem t_244_1235 : e_Sn 244 1235 (e_un n_244_1235) := u_ldAT f_l0_eq (s_aload (i := .aload_n 0) (len := 1) hq_244 (by decide +kernel) rfl (.inr ⟨0, rfl, rfl, rfl⟩) : e_Sn 244 1235 (o_load e_okR 0 1236)) t_244_1236
noncomputable def n_244_1234 : e_Y := u_ald 0 (u_old (o_ald e_fcs 1235) n_244_1235) n_244_1235
theorem t_244_1234 : e_Sn 244 1234 (e_un n_244_1234) := u_aldT (s_iald hq_244 (by decide +kernel) rfl : e_Sn 244 1234 (o_ald e_fcs 1235)) t_244_1235
noncomputable def n_244_1233 : e_Y := u_bin a_iadd (u_old (o_iadd 1234) n_244_1234) n_244_1234
theorem t_244_1233 : e_Sn 244 1233 (e_un n_244_1233) := u_iaddT (s_iadd hq_244 (by decide +kernel) rfl : e_Sn 244 1233 (o_iadd 1234)) t_244_1234
noncomputable def n_244_1232 : e_Y := u_push (.inl 2147483649) n_244_1233
theorem t_244_1232 : e_Sn 244 1232 (e_un n_244_1232) := u_pushT (s_iconst (n := (1)) hq_244 (by decide +kernel) rfl ⟨by decide +kernel, by decide +kernel⟩ : e_Sn 244 1232 (o_push (.inl 2147483649) 1233)) t_244_1233
noncomputable def n_244_1230 : e_Y := u_ld f_okI f_l4 n_244_1232
theorem t_244_1230 : e_Sn 244 1230 (e_un n_244_1230) := u_ldIT f_l4_eq (s_iload (i := .iload 4) (len := 2) hq_244 (by decide +kernel) rfl (.inl ⟨rfl, rfl⟩) : e_Sn 244 1230 (o_load e_okI 4 1232)) t_244_1232
noncomputable def n_244_1229 : e_Y := u_ld f_okA f_l0 n_244_1230
theorem t_244_1229 : e_Sn 244 1229 (e_un n_244_1229) := u_ldAT f_l0_eq (s_aload (i := .aload_n 0) (len := 1) hq_244 (by decide +kernel) rfl (.inr ⟨0, rfl, rfl, rfl⟩) : e_Sn 244 1229 (o_load e_okR 0 1230)) t_244_1230
noncomputable def n_244_1228 : e_Y := u_ld f_okA f_l1 n_244_1229
theorem t_244_1228 : e_Sn 244 1228 (e_un n_244_1228) := u_ldAT f_l1_eq (s_aload (i := .aload_n 1) (len := 1) hq_244 (by decide +kernel) rfl (.inr ⟨1, rfl, rfl, rfl⟩) : e_Sn 244 1228 (o_load e_okR 1 1229)) t_244_1229
noncomputable def n_244_1225 : e_Y := n_244_2235
theorem t_244_1225 : e_Sn 244 1225 (e_un n_244_1225) := u_gotoT (s_goto (off := (1010)) hq_244 (by decide +kernel) rfl : e_Sn 244 1225 (o_goto 2235)) t_244_2235
noncomputable def n_244_1220 : e_Y := u_if y_ne0 (u_old2 (o_ifeq 1225 1223) 1225 n_244_1225 (u_at 1223)) n_244_1225 (u_at 1223)
theorem t_244_1220 : e_Sn 244 1220 (e_un n_244_1220) := u_ifeqT rfl (s_ifeq (off := (5)) hq_244 (by decide +kernel) rfl rfl : e_Sn 244 1220 (o_ifeq 1225 1223)) t_244_1225 u_atT
noncomputable def n_244_1219 : e_Y := u_old (o_lcmp 1220) n_244_1220
theorem t_244_1219 : e_Sn 244 1219 (e_un n_244_1219) := u_oldT (s_lcmp hq_244 (by decide +kernel) rfl : e_Sn 244 1219 (o_lcmp 1220)) t_244_1220 e_cg_lcmp
noncomputable def n_244_1218 : e_Y := u_old (o_i2l 1219) n_244_1219
theorem t_244_1218 : e_Sn 244 1218 (e_un n_244_1218) := u_oldT (s_i2l hq_244 (by decide +kernel) rfl : e_Sn 244 1218 (o_i2l 1219)) t_244_1219 e_congr_i2l
noncomputable def n_244_1216 : e_Y := u_ld f_okI f_l6 n_244_1218
theorem t_244_1216 : e_Sn 244 1216 (e_un n_244_1216) := u_ldIT f_l6_eq (s_iload (i := .iload 6) (len := 2) hq_244 (by decide +kernel) rfl (.inl ⟨rfl, rfl⟩) : e_Sn 244 1216 (o_load e_okI 6 1218)) t_244_1218
noncomputable def n_244_1215 : e_Y := u_ald 2 (u_old (o_aldO 2 1216) n_244_1216) n_244_1216
theorem t_244_1215 : e_Sn 244 1215 (e_un n_244_1215) := u_aldOT (s_lald hq_244 (by decide +kernel) rfl : e_Sn 244 1215 (o_aldO 2 1216)) t_244_1216
noncomputable def n_244_1214 : e_Y := u_push (.inl 2147483648) n_244_1215
theorem t_244_1214 : e_Sn 244 1214 (e_un n_244_1214) := u_pushT (s_iconst (n := (0)) hq_244 (by decide +kernel) rfl ⟨by decide +kernel, by decide +kernel⟩ : e_Sn 244 1214 (o_push (.inl 2147483648) 1215)) t_244_1215
noncomputable def n_244_1213 : e_Y := u_ld f_okA f_l3 n_244_1214
theorem t_244_1213 : e_Sn 244 1213 (e_un n_244_1213) := u_ldAT f_l3_eq (s_aload (i := .aload_n 3) (len := 1) hq_244 (by decide +kernel) rfl (.inr ⟨3, rfl, rfl, rfl⟩) : e_Sn 244 1213 (o_load e_okR 3 1214)) t_244_1214
noncomputable def n_244_1210 : e_Y := u_if y_ne0 (u_old2 (o_ifeq 1213 1225) 1213 n_244_1213 n_244_1225) n_244_1213 n_244_1225
theorem t_244_1210 : e_Sn 244 1210 (e_un n_244_1210) := u_ifeqT rfl (s_ifne (off := (15)) hq_244 (by decide +kernel) rfl rfl : e_Sn 244 1210 (o_ifeq 1213 1225)) t_244_1213 t_244_1225
noncomputable def n_244_1208 : e_Y := u_ld f_okI f_l5 n_244_1210
theorem t_244_1208 : e_Sn 244 1208 (e_un n_244_1208) := u_ldIT f_l5_eq (s_iload (i := .iload 5) (len := 2) hq_244 (by decide +kernel) rfl (.inl ⟨rfl, rfl⟩) : e_Sn 244 1208 (o_load e_okI 5 1210)) t_244_1210
noncomputable def n_244_1203 : e_Y := u_jmp y_ne (u_old2 (o_ceq 1208 1206) 1208 n_244_1208 (u_at 1206)) n_244_1208 (u_at 1206)
theorem t_244_1203 : e_Sn 244 1203 (e_un n_244_1203) := u_ceqT rfl (s_ceq (off := (5)) hq_244 (by decide +kernel) rfl rfl : e_Sn 244 1203 (o_ceq 1208 1206)) t_244_1208 u_atT
noncomputable def n_244_1201 : e_Y := u_ld f_okI f_l5 n_244_1203
theorem t_244_1201 : e_Sn 244 1201 (e_un n_244_1201) := u_ldIT f_l5_eq (s_iload (i := .iload 5) (len := 2) hq_244 (by decide +kernel) rfl (.inl ⟨rfl, rfl⟩) : e_Sn 244 1201 (o_load e_okI 5 1203)) t_244_1203
noncomputable def n_244_1198 : e_Y := u_callV 12 199 1 20 1 n_199_0 n_244_1201
theorem t_244_1198 : e_Sn 244 1198 (e_un n_244_1198) := u_callVT rfl (s_callV (ci := 12) (C := er_12) (T := et_12) (N := 5) (index := 117) hq_244 ho_244 hy_199 hp_199 hc_199 hi_199 hd_199 (List.mem_of_getElem? (i := 1974) (by decide +kernel)) hs_199 (List.mem_of_getElem? (i := 1976) (by decide +kernel)) rfl (by decide +kernel) rfl : e_Sn 244 1198 (o_callV (e_s1 12 199 1) 1 1201)) t_199_0 t_244_1201
noncomputable def n_244_1197 : e_Y := u_ld f_okA f_l2 n_244_1198
theorem t_244_1197 : e_Sn 244 1197 (e_un n_244_1197) := u_ldAT f_l2_eq (s_aload (i := .aload_n 2) (len := 1) hq_244 (by decide +kernel) rfl (.inr ⟨2, rfl, rfl, rfl⟩) : e_Sn 244 1197 (o_load e_okR 2 1198)) t_244_1198
noncomputable def n_244_1195 : e_Y := u_st f_okI f_s6 n_244_1197
theorem t_244_1195 : e_Sn 244 1195 (e_un n_244_1195) := u_stIT (fun _ _ _ => f_s6_eq) (s_istore (i := .istore 6) (len := 2) hq_244 (by decide +kernel) rfl (.inl ⟨rfl, rfl⟩) : e_Sn 244 1195 (o_store e_okI 6 1197)) t_244_1197
noncomputable def n_244_1192 : e_Y := u_callV 12 154 3 22 3 n_154_0 n_244_1195
theorem t_244_1192 : e_Sn 244 1192 (e_un n_244_1192) := u_callVT rfl (s_callV (ci := 12) (C := er_12) (T := et_12) (N := 5) (index := 186) hq_244 ho_244 hy_154 hp_154 hc_154 hi_154 hd_154 (List.mem_of_getElem? (i := 2993) (by decide +kernel)) hs_154 (List.mem_of_getElem? (i := 2995) (by decide +kernel)) rfl (by decide +kernel) rfl : e_Sn 244 1192 (o_callV (e_s1 12 154 3) 3 1195)) t_154_0 t_244_1195
noncomputable def n_244_1191 : e_Y := u_ald 0 (u_old (o_ald e_fcs 1192) n_244_1192) n_244_1192
theorem t_244_1191 : e_Sn 244 1191 (e_un n_244_1191) := u_aldT (s_iald hq_244 (by decide +kernel) rfl : e_Sn 244 1191 (o_ald e_fcs 1192)) t_244_1192
noncomputable def n_244_1190 : e_Y := u_bin a_iadd (u_old (o_iadd 1191) n_244_1191) n_244_1191
theorem t_244_1190 : e_Sn 244 1190 (e_un n_244_1190) := u_iaddT (s_iadd hq_244 (by decide +kernel) rfl : e_Sn 244 1190 (o_iadd 1191)) t_244_1191
noncomputable def n_244_1189 : e_Y := u_push (.inl 2147483650) n_244_1190
theorem t_244_1189 : e_Sn 244 1189 (e_un n_244_1189) := u_pushT (s_iconst (n := (2)) hq_244 (by decide +kernel) rfl ⟨by decide +kernel, by decide +kernel⟩ : e_Sn 244 1189 (o_push (.inl 2147483650) 1190)) t_244_1190
noncomputable def n_244_1187 : e_Y := u_ld f_okI f_l4 n_244_1189
theorem t_244_1187 : e_Sn 244 1187 (e_un n_244_1187) := u_ldIT f_l4_eq (s_iload (i := .iload 4) (len := 2) hq_244 (by decide +kernel) rfl (.inl ⟨rfl, rfl⟩) : e_Sn 244 1187 (o_load e_okI 4 1189)) t_244_1189
noncomputable def n_244_1186 : e_Y := u_ld f_okA f_l0 n_244_1187
theorem t_244_1186 : e_Sn 244 1186 (e_un n_244_1186) := u_ldAT f_l0_eq (s_aload (i := .aload_n 0) (len := 1) hq_244 (by decide +kernel) rfl (.inr ⟨0, rfl, rfl, rfl⟩) : e_Sn 244 1186 (o_load e_okR 0 1187)) t_244_1187
noncomputable def n_244_1185 : e_Y := u_ald 0 (u_old (o_ald e_fcs 1186) n_244_1186) n_244_1186
theorem t_244_1185 : e_Sn 244 1185 (e_un n_244_1185) := u_aldT (s_iald hq_244 (by decide +kernel) rfl : e_Sn 244 1185 (o_ald e_fcs 1186)) t_244_1186
noncomputable def n_244_1184 : e_Y := u_bin a_iadd (u_old (o_iadd 1185) n_244_1185) n_244_1185
theorem t_244_1184 : e_Sn 244 1184 (e_un n_244_1184) := u_iaddT (s_iadd hq_244 (by decide +kernel) rfl : e_Sn 244 1184 (o_iadd 1185)) t_244_1185
noncomputable def n_244_1183 : e_Y := u_push (.inl 2147483649) n_244_1184
theorem t_244_1183 : e_Sn 244 1183 (e_un n_244_1183) := u_pushT (s_iconst (n := (1)) hq_244 (by decide +kernel) rfl ⟨by decide +kernel, by decide +kernel⟩ : e_Sn 244 1183 (o_push (.inl 2147483649) 1184)) t_244_1184
noncomputable def n_244_1181 : e_Y := u_ld f_okI f_l4 n_244_1183
theorem t_244_1181 : e_Sn 244 1181 (e_un n_244_1181) := u_ldIT f_l4_eq (s_iload (i := .iload 4) (len := 2) hq_244 (by decide +kernel) rfl (.inl ⟨rfl, rfl⟩) : e_Sn 244 1181 (o_load e_okI 4 1183)) t_244_1183
noncomputable def n_244_1180 : e_Y := u_ld f_okA f_l0 n_244_1181
theorem t_244_1180 : e_Sn 244 1180 (e_un n_244_1180) := u_ldAT f_l0_eq (s_aload (i := .aload_n 0) (len := 1) hq_244 (by decide +kernel) rfl (.inr ⟨0, rfl, rfl, rfl⟩) : e_Sn 244 1180 (o_load e_okR 0 1181)) t_244_1181
noncomputable def n_244_1179 : e_Y := u_ld f_okA f_l2 n_244_1180
theorem t_244_1179 : e_Sn 244 1179 (e_un n_244_1179) := u_ldAT f_l2_eq (s_aload (i := .aload_n 2) (len := 1) hq_244 (by decide +kernel) rfl (.inr ⟨2, rfl, rfl, rfl⟩) : e_Sn 244 1179 (o_load e_okR 2 1180)) t_244_1180
noncomputable def n_244_1177 : e_Y := u_st f_okI f_s5 n_244_1179
theorem t_244_1177 : e_Sn 244 1177 (e_un n_244_1177) := u_stIT (fun _ _ _ => f_s5_eq) (s_istore (i := .istore 5) (len := 2) hq_244 (by decide +kernel) rfl (.inl ⟨rfl, rfl⟩) : e_Sn 244 1177 (o_store e_okI 5 1179)) t_244_1179
noncomputable def n_244_1174 : e_Y := u_callS 113 5 24 4 n_113_0 n_244_1177
theorem t_244_1174 : e_Sn 244 1174 (e_un n_244_1174) := u_callST rfl (s_callSW (index := 184) hq_244 ho_244 hy_113 hp_113 hc_113 hi_113 hd_113 (List.mem_of_getElem? (i := 1650) (by decide +kernel)) hs_113 (by decide +kernel) rfl : e_Sn 244 1174 (o_callS 113 5 4 1177)) t_113_0 t_244_1177
noncomputable def n_244_1173 : e_Y := u_ld f_okA f_l3 n_244_1174
theorem t_244_1173 : e_Sn 244 1173 (e_un n_244_1173) := u_ldAT f_l3_eq (s_aload (i := .aload_n 3) (len := 1) hq_244 (by decide +kernel) rfl (.inr ⟨3, rfl, rfl, rfl⟩) : e_Sn 244 1173 (o_load e_okR 3 1174)) t_244_1174
noncomputable def n_244_1172 : e_Y := u_ald 0 (u_old (o_ald e_fcs 1173) n_244_1173) n_244_1173
theorem t_244_1172 : e_Sn 244 1172 (e_un n_244_1172) := u_aldT (s_iald hq_244 (by decide +kernel) rfl : e_Sn 244 1172 (o_ald e_fcs 1173)) t_244_1173
noncomputable def n_244_1171 : e_Y := u_bin a_iadd (u_old (o_iadd 1172) n_244_1172) n_244_1172
theorem t_244_1171 : e_Sn 244 1171 (e_un n_244_1171) := u_iaddT (s_iadd hq_244 (by decide +kernel) rfl : e_Sn 244 1171 (o_iadd 1172)) t_244_1172
noncomputable def n_244_1170 : e_Y := u_push (.inl 2147483650) n_244_1171
theorem t_244_1170 : e_Sn 244 1170 (e_un n_244_1170) := u_pushT (s_iconst (n := (2)) hq_244 (by decide +kernel) rfl ⟨by decide +kernel, by decide +kernel⟩ : e_Sn 244 1170 (o_push (.inl 2147483650) 1171)) t_244_1171
noncomputable def n_244_1168 : e_Y := u_ld f_okI f_l4 n_244_1170
theorem t_244_1168 : e_Sn 244 1168 (e_un n_244_1168) := u_ldIT f_l4_eq (s_iload (i := .iload 4) (len := 2) hq_244 (by decide +kernel) rfl (.inl ⟨rfl, rfl⟩) : e_Sn 244 1168 (o_load e_okI 4 1170)) t_244_1170
noncomputable def n_244_1167 : e_Y := u_ld f_okA f_l0 n_244_1168
theorem t_244_1167 : e_Sn 244 1167 (e_un n_244_1167) := u_ldAT f_l0_eq (s_aload (i := .aload_n 0) (len := 1) hq_244 (by decide +kernel) rfl (.inr ⟨0, rfl, rfl, rfl⟩) : e_Sn 244 1167 (o_load e_okR 0 1168)) t_244_1168
noncomputable def n_244_1166 : e_Y := u_ald 0 (u_old (o_ald e_fcs 1167) n_244_1167) n_244_1167
theorem t_244_1166 : e_Sn 244 1166 (e_un n_244_1166) := u_aldT (s_iald hq_244 (by decide +kernel) rfl : e_Sn 244 1166 (o_ald e_fcs 1167)) t_244_1167
noncomputable def n_244_1165 : e_Y := u_bin a_iadd (u_old (o_iadd 1166) n_244_1166) n_244_1166
theorem t_244_1165 : e_Sn 244 1165 (e_un n_244_1165) := u_iaddT (s_iadd hq_244 (by decide +kernel) rfl : e_Sn 244 1165 (o_iadd 1166)) t_244_1166
noncomputable def n_244_1164 : e_Y := u_push (.inl 2147483649) n_244_1165
theorem t_244_1164 : e_Sn 244 1164 (e_un n_244_1164) := u_pushT (s_iconst (n := (1)) hq_244 (by decide +kernel) rfl ⟨by decide +kernel, by decide +kernel⟩ : e_Sn 244 1164 (o_push (.inl 2147483649) 1165)) t_244_1165
noncomputable def n_244_1162 : e_Y := u_ld f_okI f_l4 n_244_1164
theorem t_244_1162 : e_Sn 244 1162 (e_un n_244_1162) := u_ldIT f_l4_eq (s_iload (i := .iload 4) (len := 2) hq_244 (by decide +kernel) rfl (.inl ⟨rfl, rfl⟩) : e_Sn 244 1162 (o_load e_okI 4 1164)) t_244_1164
noncomputable def n_244_1161 : e_Y := u_ld f_okA f_l0 n_244_1162
theorem t_244_1161 : e_Sn 244 1161 (e_un n_244_1161) := u_ldAT f_l0_eq (s_aload (i := .aload_n 0) (len := 1) hq_244 (by decide +kernel) rfl (.inr ⟨0, rfl, rfl, rfl⟩) : e_Sn 244 1161 (o_load e_okR 0 1162)) t_244_1162
noncomputable def n_244_1160 : e_Y := u_ld f_okA f_l1 n_244_1161
theorem t_244_1160 : e_Sn 244 1160 (e_un n_244_1160) := u_ldAT f_l1_eq (s_aload (i := .aload_n 1) (len := 1) hq_244 (by decide +kernel) rfl (.inr ⟨1, rfl, rfl, rfl⟩) : e_Sn 244 1160 (o_load e_okR 1 1161)) t_244_1161
noncomputable def n_244_1157 : e_Y := n_244_2235
theorem t_244_1157 : e_Sn 244 1157 (e_un n_244_1157) := u_gotoT (s_goto (off := (1078)) hq_244 (by decide +kernel) rfl : e_Sn 244 1157 (o_goto 2235)) t_244_2235
noncomputable def n_244_1142 : e_Y := u_if y_ne0 (u_old2 (o_ifeq 1145 1157) 1145 (u_at 1145) n_244_1157) (u_at 1145) n_244_1157
theorem t_244_1142 : e_Sn 244 1142 (e_un n_244_1142) := u_ifeqT rfl (s_ifne (off := (15)) hq_244 (by decide +kernel) rfl rfl : e_Sn 244 1142 (o_ifeq 1145 1157)) u_atT t_244_1157
noncomputable def n_244_1140 : e_Y := u_ld f_okI f_l5 n_244_1142
theorem t_244_1140 : e_Sn 244 1140 (e_un n_244_1140) := u_ldIT f_l5_eq (s_iload (i := .iload 5) (len := 2) hq_244 (by decide +kernel) rfl (.inl ⟨rfl, rfl⟩) : e_Sn 244 1140 (o_load e_okI 5 1142)) t_244_1142
noncomputable def n_244_1135 : e_Y := u_jmp y_ne (u_old2 (o_ceq 1140 1138) 1140 n_244_1140 (u_at 1138)) n_244_1140 (u_at 1138)
theorem t_244_1135 : e_Sn 244 1135 (e_un n_244_1135) := u_ceqT rfl (s_ceq (off := (5)) hq_244 (by decide +kernel) rfl rfl : e_Sn 244 1135 (o_ceq 1140 1138)) t_244_1140 u_atT
noncomputable def n_244_1133 : e_Y := u_ld f_okI f_l5 n_244_1135
theorem t_244_1133 : e_Sn 244 1133 (e_un n_244_1133) := u_ldIT f_l5_eq (s_iload (i := .iload 5) (len := 2) hq_244 (by decide +kernel) rfl (.inl ⟨rfl, rfl⟩) : e_Sn 244 1133 (o_load e_okI 5 1135)) t_244_1135
noncomputable def n_244_1130 : e_Y := u_callV 12 199 1 20 1 n_199_0 n_244_1133
theorem t_244_1130 : e_Sn 244 1130 (e_un n_244_1130) := u_callVT rfl (s_callV (ci := 12) (C := er_12) (T := et_12) (N := 5) (index := 117) hq_244 ho_244 hy_199 hp_199 hc_199 hi_199 hd_199 (List.mem_of_getElem? (i := 1974) (by decide +kernel)) hs_199 (List.mem_of_getElem? (i := 1976) (by decide +kernel)) rfl (by decide +kernel) rfl : e_Sn 244 1130 (o_callV (e_s1 12 199 1) 1 1133)) t_199_0 t_244_1133
noncomputable def n_244_1129 : e_Y := u_ld f_okA f_l2 n_244_1130
theorem t_244_1129 : e_Sn 244 1129 (e_un n_244_1129) := u_ldAT f_l2_eq (s_aload (i := .aload_n 2) (len := 1) hq_244 (by decide +kernel) rfl (.inr ⟨2, rfl, rfl, rfl⟩) : e_Sn 244 1129 (o_load e_okR 2 1130)) t_244_1130
noncomputable def n_244_1127 : e_Y := u_st f_okI f_s6 n_244_1129
theorem t_244_1127 : e_Sn 244 1127 (e_un n_244_1127) := u_stIT (fun _ _ _ => f_s6_eq) (s_istore (i := .istore 6) (len := 2) hq_244 (by decide +kernel) rfl (.inl ⟨rfl, rfl⟩) : e_Sn 244 1127 (o_store e_okI 6 1129)) t_244_1129
noncomputable def n_244_1124 : e_Y := u_callV 12 185 4 23 4 n_185_0 n_244_1127
theorem t_244_1124 : e_Sn 244 1124 (e_un n_244_1124) := u_callVT rfl (s_callV (ci := 12) (C := er_12) (T := et_12) (N := 5) (index := 183) hq_244 ho_244 hy_185 hp_185 hc_185 hi_185 hd_185 (List.mem_of_getElem? (i := 2985) (by decide +kernel)) hs_185 (List.mem_of_getElem? (i := 2987) (by decide +kernel)) rfl (by decide +kernel) rfl : e_Sn 244 1124 (o_callV (e_s1 12 185 4) 4 1127)) t_185_0 t_244_1127
noncomputable def n_244_1123 : e_Y := u_ald 0 (u_old (o_ald e_fcs 1124) n_244_1124) n_244_1124
theorem t_244_1123 : e_Sn 244 1123 (e_un n_244_1123) := u_aldT (s_iald hq_244 (by decide +kernel) rfl : e_Sn 244 1123 (o_ald e_fcs 1124)) t_244_1124
noncomputable def n_244_1122 : e_Y := u_bin a_iadd (u_old (o_iadd 1123) n_244_1123) n_244_1123
theorem t_244_1122 : e_Sn 244 1122 (e_un n_244_1122) := u_iaddT (s_iadd hq_244 (by decide +kernel) rfl : e_Sn 244 1122 (o_iadd 1123)) t_244_1123
noncomputable def n_244_1121 : e_Y := u_push (.inl 2147483651) n_244_1122
theorem t_244_1121 : e_Sn 244 1121 (e_un n_244_1121) := u_pushT (s_iconst (n := (3)) hq_244 (by decide +kernel) rfl ⟨by decide +kernel, by decide +kernel⟩ : e_Sn 244 1121 (o_push (.inl 2147483651) 1122)) t_244_1122
noncomputable def n_244_1119 : e_Y := u_ld f_okI f_l4 n_244_1121
theorem t_244_1119 : e_Sn 244 1119 (e_un n_244_1119) := u_ldIT f_l4_eq (s_iload (i := .iload 4) (len := 2) hq_244 (by decide +kernel) rfl (.inl ⟨rfl, rfl⟩) : e_Sn 244 1119 (o_load e_okI 4 1121)) t_244_1121
noncomputable def n_244_1118 : e_Y := u_ld f_okA f_l0 n_244_1119
theorem t_244_1118 : e_Sn 244 1118 (e_un n_244_1118) := u_ldAT f_l0_eq (s_aload (i := .aload_n 0) (len := 1) hq_244 (by decide +kernel) rfl (.inr ⟨0, rfl, rfl, rfl⟩) : e_Sn 244 1118 (o_load e_okR 0 1119)) t_244_1119
noncomputable def n_244_1117 : e_Y := u_ald 0 (u_old (o_ald e_fcs 1118) n_244_1118) n_244_1118
theorem t_244_1117 : e_Sn 244 1117 (e_un n_244_1117) := u_aldT (s_iald hq_244 (by decide +kernel) rfl : e_Sn 244 1117 (o_ald e_fcs 1118)) t_244_1118
noncomputable def n_244_1116 : e_Y := u_bin a_iadd (u_old (o_iadd 1117) n_244_1117) n_244_1117
theorem t_244_1116 : e_Sn 244 1116 (e_un n_244_1116) := u_iaddT (s_iadd hq_244 (by decide +kernel) rfl : e_Sn 244 1116 (o_iadd 1117)) t_244_1117
noncomputable def n_244_1115 : e_Y := u_push (.inl 2147483650) n_244_1116
theorem t_244_1115 : e_Sn 244 1115 (e_un n_244_1115) := u_pushT (s_iconst (n := (2)) hq_244 (by decide +kernel) rfl ⟨by decide +kernel, by decide +kernel⟩ : e_Sn 244 1115 (o_push (.inl 2147483650) 1116)) t_244_1116
noncomputable def n_244_1113 : e_Y := u_ld f_okI f_l4 n_244_1115
theorem t_244_1113 : e_Sn 244 1113 (e_un n_244_1113) := u_ldIT f_l4_eq (s_iload (i := .iload 4) (len := 2) hq_244 (by decide +kernel) rfl (.inl ⟨rfl, rfl⟩) : e_Sn 244 1113 (o_load e_okI 4 1115)) t_244_1115
noncomputable def n_244_1112 : e_Y := u_ld f_okA f_l0 n_244_1113
theorem t_244_1112 : e_Sn 244 1112 (e_un n_244_1112) := u_ldAT f_l0_eq (s_aload (i := .aload_n 0) (len := 1) hq_244 (by decide +kernel) rfl (.inr ⟨0, rfl, rfl, rfl⟩) : e_Sn 244 1112 (o_load e_okR 0 1113)) t_244_1113
noncomputable def n_244_1111 : e_Y := u_ald 0 (u_old (o_ald e_fcs 1112) n_244_1112) n_244_1112
theorem t_244_1111 : e_Sn 244 1111 (e_un n_244_1111) := u_aldT (s_iald hq_244 (by decide +kernel) rfl : e_Sn 244 1111 (o_ald e_fcs 1112)) t_244_1112
noncomputable def n_244_1110 : e_Y := u_bin a_iadd (u_old (o_iadd 1111) n_244_1111) n_244_1111
theorem t_244_1110 : e_Sn 244 1110 (e_un n_244_1110) := u_iaddT (s_iadd hq_244 (by decide +kernel) rfl : e_Sn 244 1110 (o_iadd 1111)) t_244_1111
noncomputable def n_244_1109 : e_Y := u_push (.inl 2147483649) n_244_1110
theorem t_244_1109 : e_Sn 244 1109 (e_un n_244_1109) := u_pushT (s_iconst (n := (1)) hq_244 (by decide +kernel) rfl ⟨by decide +kernel, by decide +kernel⟩ : e_Sn 244 1109 (o_push (.inl 2147483649) 1110)) t_244_1110
noncomputable def n_244_1107 : e_Y := u_ld f_okI f_l4 n_244_1109
theorem t_244_1107 : e_Sn 244 1107 (e_un n_244_1107) := u_ldIT f_l4_eq (s_iload (i := .iload 4) (len := 2) hq_244 (by decide +kernel) rfl (.inl ⟨rfl, rfl⟩) : e_Sn 244 1107 (o_load e_okI 4 1109)) t_244_1109
noncomputable def n_244_1106 : e_Y := u_ld f_okA f_l0 n_244_1107
theorem t_244_1106 : e_Sn 244 1106 (e_un n_244_1106) := u_ldAT f_l0_eq (s_aload (i := .aload_n 0) (len := 1) hq_244 (by decide +kernel) rfl (.inr ⟨0, rfl, rfl, rfl⟩) : e_Sn 244 1106 (o_load e_okR 0 1107)) t_244_1107
noncomputable def n_244_1105 : e_Y := u_ld f_okA f_l2 n_244_1106
theorem t_244_1105 : e_Sn 244 1105 (e_un n_244_1105) := u_ldAT f_l2_eq (s_aload (i := .aload_n 2) (len := 1) hq_244 (by decide +kernel) rfl (.inr ⟨2, rfl, rfl, rfl⟩) : e_Sn 244 1105 (o_load e_okR 2 1106)) t_244_1106
noncomputable def n_244_1103 : e_Y := u_st f_okI f_s5 n_244_1105
theorem t_244_1103 : e_Sn 244 1103 (e_un n_244_1103) := u_stIT (fun _ _ _ => f_s5_eq) (s_istore (i := .istore 5) (len := 2) hq_244 (by decide +kernel) rfl (.inl ⟨rfl, rfl⟩) : e_Sn 244 1103 (o_store e_okI 5 1105)) t_244_1105
noncomputable def n_244_1100 : e_Y := u_callS 123 6 25 5 n_123_0 n_244_1103
theorem t_244_1100 : e_Sn 244 1100 (e_un n_244_1100) := u_callST rfl (s_callSW (index := 180) hq_244 ho_244 hy_123 hp_123 hc_123 hi_123 hd_123 (List.mem_of_getElem? (i := 1646) (by decide +kernel)) hs_123 (by decide +kernel) rfl : e_Sn 244 1100 (o_callS 123 6 5 1103)) t_123_0 t_244_1103
noncomputable def n_244_1099 : e_Y := u_ld f_okA f_l3 n_244_1100
theorem t_244_1099 : e_Sn 244 1099 (e_un n_244_1099) := u_ldAT f_l3_eq (s_aload (i := .aload_n 3) (len := 1) hq_244 (by decide +kernel) rfl (.inr ⟨3, rfl, rfl, rfl⟩) : e_Sn 244 1099 (o_load e_okR 3 1100)) t_244_1100
noncomputable def n_244_1098 : e_Y := u_ald 0 (u_old (o_ald e_fcs 1099) n_244_1099) n_244_1099
theorem t_244_1098 : e_Sn 244 1098 (e_un n_244_1098) := u_aldT (s_iald hq_244 (by decide +kernel) rfl : e_Sn 244 1098 (o_ald e_fcs 1099)) t_244_1099
noncomputable def n_244_1097 : e_Y := u_bin a_iadd (u_old (o_iadd 1098) n_244_1098) n_244_1098
theorem t_244_1097 : e_Sn 244 1097 (e_un n_244_1097) := u_iaddT (s_iadd hq_244 (by decide +kernel) rfl : e_Sn 244 1097 (o_iadd 1098)) t_244_1098
noncomputable def n_244_1096 : e_Y := u_push (.inl 2147483651) n_244_1097
theorem t_244_1096 : e_Sn 244 1096 (e_un n_244_1096) := u_pushT (s_iconst (n := (3)) hq_244 (by decide +kernel) rfl ⟨by decide +kernel, by decide +kernel⟩ : e_Sn 244 1096 (o_push (.inl 2147483651) 1097)) t_244_1097
noncomputable def n_244_1094 : e_Y := u_ld f_okI f_l4 n_244_1096
theorem t_244_1094 : e_Sn 244 1094 (e_un n_244_1094) := u_ldIT f_l4_eq (s_iload (i := .iload 4) (len := 2) hq_244 (by decide +kernel) rfl (.inl ⟨rfl, rfl⟩) : e_Sn 244 1094 (o_load e_okI 4 1096)) t_244_1096
noncomputable def n_244_1093 : e_Y := u_ld f_okA f_l0 n_244_1094
theorem t_244_1093 : e_Sn 244 1093 (e_un n_244_1093) := u_ldAT f_l0_eq (s_aload (i := .aload_n 0) (len := 1) hq_244 (by decide +kernel) rfl (.inr ⟨0, rfl, rfl, rfl⟩) : e_Sn 244 1093 (o_load e_okR 0 1094)) t_244_1094
noncomputable def n_244_1092 : e_Y := u_ald 0 (u_old (o_ald e_fcs 1093) n_244_1093) n_244_1093
theorem t_244_1092 : e_Sn 244 1092 (e_un n_244_1092) := u_aldT (s_iald hq_244 (by decide +kernel) rfl : e_Sn 244 1092 (o_ald e_fcs 1093)) t_244_1093
noncomputable def n_244_1091 : e_Y := u_bin a_iadd (u_old (o_iadd 1092) n_244_1092) n_244_1092
theorem t_244_1091 : e_Sn 244 1091 (e_un n_244_1091) := u_iaddT (s_iadd hq_244 (by decide +kernel) rfl : e_Sn 244 1091 (o_iadd 1092)) t_244_1092
noncomputable def n_244_1090 : e_Y := u_push (.inl 2147483650) n_244_1091
theorem t_244_1090 : e_Sn 244 1090 (e_un n_244_1090) := u_pushT (s_iconst (n := (2)) hq_244 (by decide +kernel) rfl ⟨by decide +kernel, by decide +kernel⟩ : e_Sn 244 1090 (o_push (.inl 2147483650) 1091)) t_244_1091
noncomputable def n_244_1088 : e_Y := u_ld f_okI f_l4 n_244_1090
theorem t_244_1088 : e_Sn 244 1088 (e_un n_244_1088) := u_ldIT f_l4_eq (s_iload (i := .iload 4) (len := 2) hq_244 (by decide +kernel) rfl (.inl ⟨rfl, rfl⟩) : e_Sn 244 1088 (o_load e_okI 4 1090)) t_244_1090
noncomputable def n_244_1087 : e_Y := u_ld f_okA f_l0 n_244_1088
theorem t_244_1087 : e_Sn 244 1087 (e_un n_244_1087) := u_ldAT f_l0_eq (s_aload (i := .aload_n 0) (len := 1) hq_244 (by decide +kernel) rfl (.inr ⟨0, rfl, rfl, rfl⟩) : e_Sn 244 1087 (o_load e_okR 0 1088)) t_244_1088
noncomputable def n_244_1086 : e_Y := u_ald 0 (u_old (o_ald e_fcs 1087) n_244_1087) n_244_1087
theorem t_244_1086 : e_Sn 244 1086 (e_un n_244_1086) := u_aldT (s_iald hq_244 (by decide +kernel) rfl : e_Sn 244 1086 (o_ald e_fcs 1087)) t_244_1087
noncomputable def n_244_1085 : e_Y := u_bin a_iadd (u_old (o_iadd 1086) n_244_1086) n_244_1086
theorem t_244_1085 : e_Sn 244 1085 (e_un n_244_1085) := u_iaddT (s_iadd hq_244 (by decide +kernel) rfl : e_Sn 244 1085 (o_iadd 1086)) t_244_1086
noncomputable def n_244_1084 : e_Y := u_push (.inl 2147483649) n_244_1085
theorem t_244_1084 : e_Sn 244 1084 (e_un n_244_1084) := u_pushT (s_iconst (n := (1)) hq_244 (by decide +kernel) rfl ⟨by decide +kernel, by decide +kernel⟩ : e_Sn 244 1084 (o_push (.inl 2147483649) 1085)) t_244_1085
noncomputable def n_244_1082 : e_Y := u_ld f_okI f_l4 n_244_1084
theorem t_244_1082 : e_Sn 244 1082 (e_un n_244_1082) := u_ldIT f_l4_eq (s_iload (i := .iload 4) (len := 2) hq_244 (by decide +kernel) rfl (.inl ⟨rfl, rfl⟩) : e_Sn 244 1082 (o_load e_okI 4 1084)) t_244_1084
noncomputable def n_244_1081 : e_Y := u_ld f_okA f_l0 n_244_1082
theorem t_244_1081 : e_Sn 244 1081 (e_un n_244_1081) := u_ldAT f_l0_eq (s_aload (i := .aload_n 0) (len := 1) hq_244 (by decide +kernel) rfl (.inr ⟨0, rfl, rfl, rfl⟩) : e_Sn 244 1081 (o_load e_okR 0 1082)) t_244_1082
noncomputable def n_244_1080 : e_Y := u_ld f_okA f_l1 n_244_1081
theorem t_244_1080 : e_Sn 244 1080 (e_un n_244_1080) := u_ldAT f_l1_eq (s_aload (i := .aload_n 1) (len := 1) hq_244 (by decide +kernel) rfl (.inr ⟨1, rfl, rfl, rfl⟩) : e_Sn 244 1080 (o_load e_okR 1 1081)) t_244_1081
noncomputable def n_244_1077 : e_Y := n_244_2235
theorem t_244_1077 : e_Sn 244 1077 (e_un n_244_1077) := u_gotoT (s_goto (off := (1158)) hq_244 (by decide +kernel) rfl : e_Sn 244 1077 (o_goto 2235)) t_244_2235
noncomputable def n_244_1062 : e_Y := u_if y_ne0 (u_old2 (o_ifeq 1065 1077) 1065 (u_at 1065) n_244_1077) (u_at 1065) n_244_1077
theorem t_244_1062 : e_Sn 244 1062 (e_un n_244_1062) := u_ifeqT rfl (s_ifne (off := (15)) hq_244 (by decide +kernel) rfl rfl : e_Sn 244 1062 (o_ifeq 1065 1077)) u_atT t_244_1077
noncomputable def n_244_1060 : e_Y := u_ld f_okI f_l5 n_244_1062
theorem t_244_1060 : e_Sn 244 1060 (e_un n_244_1060) := u_ldIT f_l5_eq (s_iload (i := .iload 5) (len := 2) hq_244 (by decide +kernel) rfl (.inl ⟨rfl, rfl⟩) : e_Sn 244 1060 (o_load e_okI 5 1062)) t_244_1062
noncomputable def n_244_1055 : e_Y := u_jmp y_ne (u_old2 (o_ceq 1060 1058) 1060 n_244_1060 (u_at 1058)) n_244_1060 (u_at 1058)
theorem t_244_1055 : e_Sn 244 1055 (e_un n_244_1055) := u_ceqT rfl (s_ceq (off := (5)) hq_244 (by decide +kernel) rfl rfl : e_Sn 244 1055 (o_ceq 1060 1058)) t_244_1060 u_atT
noncomputable def n_244_1053 : e_Y := u_ld f_okI f_l5 n_244_1055
theorem t_244_1053 : e_Sn 244 1053 (e_un n_244_1053) := u_ldIT f_l5_eq (s_iload (i := .iload 5) (len := 2) hq_244 (by decide +kernel) rfl (.inl ⟨rfl, rfl⟩) : e_Sn 244 1053 (o_load e_okI 5 1055)) t_244_1055
noncomputable def n_244_1050 : e_Y := u_callV 12 199 1 20 1 n_199_0 n_244_1053
theorem t_244_1050 : e_Sn 244 1050 (e_un n_244_1050) := u_callVT rfl (s_callV (ci := 12) (C := er_12) (T := et_12) (N := 5) (index := 117) hq_244 ho_244 hy_199 hp_199 hc_199 hi_199 hd_199 (List.mem_of_getElem? (i := 1974) (by decide +kernel)) hs_199 (List.mem_of_getElem? (i := 1976) (by decide +kernel)) rfl (by decide +kernel) rfl : e_Sn 244 1050 (o_callV (e_s1 12 199 1) 1 1053)) t_199_0 t_244_1053
noncomputable def n_244_1049 : e_Y := u_ld f_okA f_l2 n_244_1050
theorem t_244_1049 : e_Sn 244 1049 (e_un n_244_1049) := u_ldAT f_l2_eq (s_aload (i := .aload_n 2) (len := 1) hq_244 (by decide +kernel) rfl (.inr ⟨2, rfl, rfl, rfl⟩) : e_Sn 244 1049 (o_load e_okR 2 1050)) t_244_1050
noncomputable def n_244_1047 : e_Y := u_st f_okI f_s6 n_244_1049
theorem t_244_1047 : e_Sn 244 1047 (e_un n_244_1047) := u_stIT (fun _ _ _ => f_s6_eq) (s_istore (i := .istore 6) (len := 2) hq_244 (by decide +kernel) rfl (.inl ⟨rfl, rfl⟩) : e_Sn 244 1047 (o_store e_okI 6 1049)) t_244_1049
noncomputable def n_244_1044 : e_Y := u_callV 12 188 3 22 3 n_188_0 n_244_1047
theorem t_244_1044 : e_Sn 244 1044 (e_un n_244_1044) := u_callVT rfl (s_callV (ci := 12) (C := er_12) (T := et_12) (N := 5) (index := 179) hq_244 ho_244 hy_188 hp_188 hc_188 hi_188 hd_188 (List.mem_of_getElem? (i := 2969) (by decide +kernel)) hs_188 (List.mem_of_getElem? (i := 2971) (by decide +kernel)) rfl (by decide +kernel) rfl : e_Sn 244 1044 (o_callV (e_s1 12 188 3) 3 1047)) t_188_0 t_244_1047
noncomputable def n_244_1043 : e_Y := u_ald 0 (u_old (o_ald e_fcs 1044) n_244_1044) n_244_1044
theorem t_244_1043 : e_Sn 244 1043 (e_un n_244_1043) := u_aldT (s_iald hq_244 (by decide +kernel) rfl : e_Sn 244 1043 (o_ald e_fcs 1044)) t_244_1044
noncomputable def n_244_1042 : e_Y := u_bin a_iadd (u_old (o_iadd 1043) n_244_1043) n_244_1043
theorem t_244_1042 : e_Sn 244 1042 (e_un n_244_1042) := u_iaddT (s_iadd hq_244 (by decide +kernel) rfl : e_Sn 244 1042 (o_iadd 1043)) t_244_1043
noncomputable def n_244_1041 : e_Y := u_push (.inl 2147483650) n_244_1042
theorem t_244_1041 : e_Sn 244 1041 (e_un n_244_1041) := u_pushT (s_iconst (n := (2)) hq_244 (by decide +kernel) rfl ⟨by decide +kernel, by decide +kernel⟩ : e_Sn 244 1041 (o_push (.inl 2147483650) 1042)) t_244_1042
noncomputable def n_244_1039 : e_Y := u_ld f_okI f_l4 n_244_1041
theorem t_244_1039 : e_Sn 244 1039 (e_un n_244_1039) := u_ldIT f_l4_eq (s_iload (i := .iload 4) (len := 2) hq_244 (by decide +kernel) rfl (.inl ⟨rfl, rfl⟩) : e_Sn 244 1039 (o_load e_okI 4 1041)) t_244_1041
noncomputable def n_244_1038 : e_Y := u_ld f_okA f_l0 n_244_1039
theorem t_244_1038 : e_Sn 244 1038 (e_un n_244_1038) := u_ldAT f_l0_eq (s_aload (i := .aload_n 0) (len := 1) hq_244 (by decide +kernel) rfl (.inr ⟨0, rfl, rfl, rfl⟩) : e_Sn 244 1038 (o_load e_okR 0 1039)) t_244_1039
noncomputable def n_244_1037 : e_Y := u_ald 0 (u_old (o_ald e_fcs 1038) n_244_1038) n_244_1038
theorem t_244_1037 : e_Sn 244 1037 (e_un n_244_1037) := u_aldT (s_iald hq_244 (by decide +kernel) rfl : e_Sn 244 1037 (o_ald e_fcs 1038)) t_244_1038
noncomputable def n_244_1036 : e_Y := u_bin a_iadd (u_old (o_iadd 1037) n_244_1037) n_244_1037
theorem t_244_1036 : e_Sn 244 1036 (e_un n_244_1036) := u_iaddT (s_iadd hq_244 (by decide +kernel) rfl : e_Sn 244 1036 (o_iadd 1037)) t_244_1037
noncomputable def n_244_1035 : e_Y := u_push (.inl 2147483649) n_244_1036
theorem t_244_1035 : e_Sn 244 1035 (e_un n_244_1035) := u_pushT (s_iconst (n := (1)) hq_244 (by decide +kernel) rfl ⟨by decide +kernel, by decide +kernel⟩ : e_Sn 244 1035 (o_push (.inl 2147483649) 1036)) t_244_1036
noncomputable def n_244_1033 : e_Y := u_ld f_okI f_l4 n_244_1035
theorem t_244_1033 : e_Sn 244 1033 (e_un n_244_1033) := u_ldIT f_l4_eq (s_iload (i := .iload 4) (len := 2) hq_244 (by decide +kernel) rfl (.inl ⟨rfl, rfl⟩) : e_Sn 244 1033 (o_load e_okI 4 1035)) t_244_1035
noncomputable def n_244_1032 : e_Y := u_ld f_okA f_l0 n_244_1033
theorem t_244_1032 : e_Sn 244 1032 (e_un n_244_1032) := u_ldAT f_l0_eq (s_aload (i := .aload_n 0) (len := 1) hq_244 (by decide +kernel) rfl (.inr ⟨0, rfl, rfl, rfl⟩) : e_Sn 244 1032 (o_load e_okR 0 1033)) t_244_1033
noncomputable def n_244_1031 : e_Y := u_ld f_okA f_l2 n_244_1032
theorem t_244_1031 : e_Sn 244 1031 (e_un n_244_1031) := u_ldAT f_l2_eq (s_aload (i := .aload_n 2) (len := 1) hq_244 (by decide +kernel) rfl (.inr ⟨2, rfl, rfl, rfl⟩) : e_Sn 244 1031 (o_load e_okR 2 1032)) t_244_1032
noncomputable def n_244_1029 : e_Y := u_st f_okI f_s5 n_244_1031
theorem t_244_1029 : e_Sn 244 1029 (e_un n_244_1029) := u_stIT (fun _ _ _ => f_s5_eq) (s_istore (i := .istore 5) (len := 2) hq_244 (by decide +kernel) rfl (.inl ⟨rfl, rfl⟩) : e_Sn 244 1029 (o_store e_okI 5 1031)) t_244_1031
noncomputable def n_244_1026 : e_Y := u_callS 124 5 24 4 n_124_0 n_244_1029
theorem t_244_1026 : e_Sn 244 1026 (e_un n_244_1026) := u_callST rfl (s_callSW (index := 177) hq_244 ho_244 hy_124 hp_124 hc_124 hi_124 hd_124 (List.mem_of_getElem? (i := 1642) (by decide +kernel)) hs_124 (by decide +kernel) rfl : e_Sn 244 1026 (o_callS 124 5 4 1029)) t_124_0 t_244_1029
noncomputable def n_244_1025 : e_Y := u_ld f_okA f_l3 n_244_1026
theorem t_244_1025 : e_Sn 244 1025 (e_un n_244_1025) := u_ldAT f_l3_eq (s_aload (i := .aload_n 3) (len := 1) hq_244 (by decide +kernel) rfl (.inr ⟨3, rfl, rfl, rfl⟩) : e_Sn 244 1025 (o_load e_okR 3 1026)) t_244_1026
noncomputable def n_244_1024 : e_Y := u_ald 0 (u_old (o_ald e_fcs 1025) n_244_1025) n_244_1025
theorem t_244_1024 : e_Sn 244 1024 (e_un n_244_1024) := u_aldT (s_iald hq_244 (by decide +kernel) rfl : e_Sn 244 1024 (o_ald e_fcs 1025)) t_244_1025
noncomputable def n_244_1023 : e_Y := u_bin a_iadd (u_old (o_iadd 1024) n_244_1024) n_244_1024
theorem t_244_1023 : e_Sn 244 1023 (e_un n_244_1023) := u_iaddT (s_iadd hq_244 (by decide +kernel) rfl : e_Sn 244 1023 (o_iadd 1024)) t_244_1024
noncomputable def n_244_1022 : e_Y := u_push (.inl 2147483650) n_244_1023
theorem t_244_1022 : e_Sn 244 1022 (e_un n_244_1022) := u_pushT (s_iconst (n := (2)) hq_244 (by decide +kernel) rfl ⟨by decide +kernel, by decide +kernel⟩ : e_Sn 244 1022 (o_push (.inl 2147483650) 1023)) t_244_1023
noncomputable def n_244_1020 : e_Y := u_ld f_okI f_l4 n_244_1022
theorem t_244_1020 : e_Sn 244 1020 (e_un n_244_1020) := u_ldIT f_l4_eq (s_iload (i := .iload 4) (len := 2) hq_244 (by decide +kernel) rfl (.inl ⟨rfl, rfl⟩) : e_Sn 244 1020 (o_load e_okI 4 1022)) t_244_1022
noncomputable def n_244_1019 : e_Y := u_ld f_okA f_l0 n_244_1020
theorem t_244_1019 : e_Sn 244 1019 (e_un n_244_1019) := u_ldAT f_l0_eq (s_aload (i := .aload_n 0) (len := 1) hq_244 (by decide +kernel) rfl (.inr ⟨0, rfl, rfl, rfl⟩) : e_Sn 244 1019 (o_load e_okR 0 1020)) t_244_1020
noncomputable def n_244_1018 : e_Y := u_ald 0 (u_old (o_ald e_fcs 1019) n_244_1019) n_244_1019
theorem t_244_1018 : e_Sn 244 1018 (e_un n_244_1018) := u_aldT (s_iald hq_244 (by decide +kernel) rfl : e_Sn 244 1018 (o_ald e_fcs 1019)) t_244_1019
noncomputable def n_244_1017 : e_Y := u_bin a_iadd (u_old (o_iadd 1018) n_244_1018) n_244_1018
theorem t_244_1017 : e_Sn 244 1017 (e_un n_244_1017) := u_iaddT (s_iadd hq_244 (by decide +kernel) rfl : e_Sn 244 1017 (o_iadd 1018)) t_244_1018
noncomputable def n_244_1016 : e_Y := u_push (.inl 2147483649) n_244_1017
theorem t_244_1016 : e_Sn 244 1016 (e_un n_244_1016) := u_pushT (s_iconst (n := (1)) hq_244 (by decide +kernel) rfl ⟨by decide +kernel, by decide +kernel⟩ : e_Sn 244 1016 (o_push (.inl 2147483649) 1017)) t_244_1017
noncomputable def n_244_1014 : e_Y := u_ld f_okI f_l4 n_244_1016
theorem t_244_1014 : e_Sn 244 1014 (e_un n_244_1014) := u_ldIT f_l4_eq (s_iload (i := .iload 4) (len := 2) hq_244 (by decide +kernel) rfl (.inl ⟨rfl, rfl⟩) : e_Sn 244 1014 (o_load e_okI 4 1016)) t_244_1016
noncomputable def n_244_1013 : e_Y := u_ld f_okA f_l0 n_244_1014
theorem t_244_1013 : e_Sn 244 1013 (e_un n_244_1013) := u_ldAT f_l0_eq (s_aload (i := .aload_n 0) (len := 1) hq_244 (by decide +kernel) rfl (.inr ⟨0, rfl, rfl, rfl⟩) : e_Sn 244 1013 (o_load e_okR 0 1014)) t_244_1014
noncomputable def n_244_1012 : e_Y := u_ld f_okA f_l1 n_244_1013
theorem t_244_1012 : e_Sn 244 1012 (e_un n_244_1012) := u_ldAT f_l1_eq (s_aload (i := .aload_n 1) (len := 1) hq_244 (by decide +kernel) rfl (.inr ⟨1, rfl, rfl, rfl⟩) : e_Sn 244 1012 (o_load e_okR 1 1013)) t_244_1013
noncomputable def n_244_1009 : e_Y := n_244_2235
theorem t_244_1009 : e_Sn 244 1009 (e_un n_244_1009) := u_gotoT (s_goto (off := (1226)) hq_244 (by decide +kernel) rfl : e_Sn 244 1009 (o_goto 2235)) t_244_2235
noncomputable def n_244_1004 : e_Y := u_if y_ne0 (u_old2 (o_ifeq 1009 1007) 1009 n_244_1009 (u_at 1007)) n_244_1009 (u_at 1007)
theorem t_244_1004 : e_Sn 244 1004 (e_un n_244_1004) := u_ifeqT rfl (s_ifeq (off := (5)) hq_244 (by decide +kernel) rfl rfl : e_Sn 244 1004 (o_ifeq 1009 1007)) t_244_1009 u_atT
noncomputable def n_244_1003 : e_Y := u_old (o_lcmp 1004) n_244_1004
theorem t_244_1003 : e_Sn 244 1003 (e_un n_244_1003) := u_oldT (s_lcmp hq_244 (by decide +kernel) rfl : e_Sn 244 1003 (o_lcmp 1004)) t_244_1004 e_cg_lcmp
noncomputable def n_244_1002 : e_Y := u_old (o_i2l 1003) n_244_1003
theorem t_244_1002 : e_Sn 244 1002 (e_un n_244_1002) := u_oldT (s_i2l hq_244 (by decide +kernel) rfl : e_Sn 244 1002 (o_i2l 1003)) t_244_1003 e_congr_i2l
noncomputable def n_244_1000 : e_Y := u_ld f_okI f_l6 n_244_1002
theorem t_244_1000 : e_Sn 244 1000 (e_un n_244_1000) := u_ldIT f_l6_eq (s_iload (i := .iload 6) (len := 2) hq_244 (by decide +kernel) rfl (.inl ⟨rfl, rfl⟩) : e_Sn 244 1000 (o_load e_okI 6 1002)) t_244_1002
noncomputable def n_244_999 : e_Y := u_ald 2 (u_old (o_aldO 2 1000) n_244_1000) n_244_1000
theorem t_244_999 : e_Sn 244 999 (e_un n_244_999) := u_aldOT (s_lald hq_244 (by decide +kernel) rfl : e_Sn 244 999 (o_aldO 2 1000)) t_244_1000
noncomputable def n_244_998 : e_Y := u_push (.inl 2147483648) n_244_999
theorem t_244_998 : e_Sn 244 998 (e_un n_244_998) := u_pushT (s_iconst (n := (0)) hq_244 (by decide +kernel) rfl ⟨by decide +kernel, by decide +kernel⟩ : e_Sn 244 998 (o_push (.inl 2147483648) 999)) t_244_999
noncomputable def n_244_997 : e_Y := u_ld f_okA f_l3 n_244_998
theorem t_244_997 : e_Sn 244 997 (e_un n_244_997) := u_ldAT f_l3_eq (s_aload (i := .aload_n 3) (len := 1) hq_244 (by decide +kernel) rfl (.inr ⟨3, rfl, rfl, rfl⟩) : e_Sn 244 997 (o_load e_okR 3 998)) t_244_998
noncomputable def n_244_994 : e_Y := u_if y_ne0 (u_old2 (o_ifeq 997 1009) 997 n_244_997 n_244_1009) n_244_997 n_244_1009
theorem t_244_994 : e_Sn 244 994 (e_un n_244_994) := u_ifeqT rfl (s_ifne (off := (15)) hq_244 (by decide +kernel) rfl rfl : e_Sn 244 994 (o_ifeq 997 1009)) t_244_997 t_244_1009
noncomputable def n_244_992 : e_Y := u_ld f_okI f_l5 n_244_994
theorem t_244_992 : e_Sn 244 992 (e_un n_244_992) := u_ldIT f_l5_eq (s_iload (i := .iload 5) (len := 2) hq_244 (by decide +kernel) rfl (.inl ⟨rfl, rfl⟩) : e_Sn 244 992 (o_load e_okI 5 994)) t_244_994
noncomputable def n_244_987 : e_Y := u_jmp y_ne (u_old2 (o_ceq 992 990) 992 n_244_992 (u_at 990)) n_244_992 (u_at 990)
theorem t_244_987 : e_Sn 244 987 (e_un n_244_987) := u_ceqT rfl (s_ceq (off := (5)) hq_244 (by decide +kernel) rfl rfl : e_Sn 244 987 (o_ceq 992 990)) t_244_992 u_atT
noncomputable def n_244_985 : e_Y := u_ld f_okI f_l5 n_244_987
theorem t_244_985 : e_Sn 244 985 (e_un n_244_985) := u_ldIT f_l5_eq (s_iload (i := .iload 5) (len := 2) hq_244 (by decide +kernel) rfl (.inl ⟨rfl, rfl⟩) : e_Sn 244 985 (o_load e_okI 5 987)) t_244_987
noncomputable def n_244_982 : e_Y := u_callV 12 199 1 20 1 n_199_0 n_244_985
theorem t_244_982 : e_Sn 244 982 (e_un n_244_982) := u_callVT rfl (s_callV (ci := 12) (C := er_12) (T := et_12) (N := 5) (index := 117) hq_244 ho_244 hy_199 hp_199 hc_199 hi_199 hd_199 (List.mem_of_getElem? (i := 1974) (by decide +kernel)) hs_199 (List.mem_of_getElem? (i := 1976) (by decide +kernel)) rfl (by decide +kernel) rfl : e_Sn 244 982 (o_callV (e_s1 12 199 1) 1 985)) t_199_0 t_244_985
noncomputable def n_244_981 : e_Y := u_ld f_okA f_l2 n_244_982
theorem t_244_981 : e_Sn 244 981 (e_un n_244_981) := u_ldAT f_l2_eq (s_aload (i := .aload_n 2) (len := 1) hq_244 (by decide +kernel) rfl (.inr ⟨2, rfl, rfl, rfl⟩) : e_Sn 244 981 (o_load e_okR 2 982)) t_244_982
noncomputable def n_244_979 : e_Y := u_st f_okI f_s6 n_244_981
theorem t_244_979 : e_Sn 244 979 (e_un n_244_979) := u_stIT (fun _ _ _ => f_s6_eq) (s_istore (i := .istore 6) (len := 2) hq_244 (by decide +kernel) rfl (.inl ⟨rfl, rfl⟩) : e_Sn 244 979 (o_store e_okI 6 981)) t_244_981
noncomputable def n_244_976 : e_Y := u_callV 12 175 3 22 3 n_175_0 n_244_979
theorem t_244_976 : e_Sn 244 976 (e_un n_244_976) := u_callVT rfl (s_callV (ci := 12) (C := er_12) (T := et_12) (N := 5) (index := 176) hq_244 ho_244 hy_175 hp_175 hc_175 hi_175 hd_175 (List.mem_of_getElem? (i := 2960) (by decide +kernel)) hs_175 (List.mem_of_getElem? (i := 2962) (by decide +kernel)) rfl (by decide +kernel) rfl : e_Sn 244 976 (o_callV (e_s1 12 175 3) 3 979)) t_175_0 t_244_979
noncomputable def n_244_975 : e_Y := u_ald 0 (u_old (o_ald e_fcs 976) n_244_976) n_244_976
theorem t_244_975 : e_Sn 244 975 (e_un n_244_975) := u_aldT (s_iald hq_244 (by decide +kernel) rfl : e_Sn 244 975 (o_ald e_fcs 976)) t_244_976
noncomputable def n_244_974 : e_Y := u_bin a_iadd (u_old (o_iadd 975) n_244_975) n_244_975
theorem t_244_974 : e_Sn 244 974 (e_un n_244_974) := u_iaddT (s_iadd hq_244 (by decide +kernel) rfl : e_Sn 244 974 (o_iadd 975)) t_244_975
noncomputable def n_244_973 : e_Y := u_push (.inl 2147483650) n_244_974
theorem t_244_973 : e_Sn 244 973 (e_un n_244_973) := u_pushT (s_iconst (n := (2)) hq_244 (by decide +kernel) rfl ⟨by decide +kernel, by decide +kernel⟩ : e_Sn 244 973 (o_push (.inl 2147483650) 974)) t_244_974
noncomputable def n_244_971 : e_Y := u_ld f_okI f_l4 n_244_973
theorem t_244_971 : e_Sn 244 971 (e_un n_244_971) := u_ldIT f_l4_eq (s_iload (i := .iload 4) (len := 2) hq_244 (by decide +kernel) rfl (.inl ⟨rfl, rfl⟩) : e_Sn 244 971 (o_load e_okI 4 973)) t_244_973
noncomputable def n_244_970 : e_Y := u_ld f_okA f_l0 n_244_971
theorem t_244_970 : e_Sn 244 970 (e_un n_244_970) := u_ldAT f_l0_eq (s_aload (i := .aload_n 0) (len := 1) hq_244 (by decide +kernel) rfl (.inr ⟨0, rfl, rfl, rfl⟩) : e_Sn 244 970 (o_load e_okR 0 971)) t_244_971
noncomputable def n_244_969 : e_Y := u_ald 0 (u_old (o_ald e_fcs 970) n_244_970) n_244_970
theorem t_244_969 : e_Sn 244 969 (e_un n_244_969) := u_aldT (s_iald hq_244 (by decide +kernel) rfl : e_Sn 244 969 (o_ald e_fcs 970)) t_244_970
noncomputable def n_244_968 : e_Y := u_bin a_iadd (u_old (o_iadd 969) n_244_969) n_244_969
theorem t_244_968 : e_Sn 244 968 (e_un n_244_968) := u_iaddT (s_iadd hq_244 (by decide +kernel) rfl : e_Sn 244 968 (o_iadd 969)) t_244_969
noncomputable def n_244_967 : e_Y := u_push (.inl 2147483649) n_244_968
theorem t_244_967 : e_Sn 244 967 (e_un n_244_967) := u_pushT (s_iconst (n := (1)) hq_244 (by decide +kernel) rfl ⟨by decide +kernel, by decide +kernel⟩ : e_Sn 244 967 (o_push (.inl 2147483649) 968)) t_244_968
noncomputable def n_244_965 : e_Y := u_ld f_okI f_l4 n_244_967
theorem t_244_965 : e_Sn 244 965 (e_un n_244_965) := u_ldIT f_l4_eq (s_iload (i := .iload 4) (len := 2) hq_244 (by decide +kernel) rfl (.inl ⟨rfl, rfl⟩) : e_Sn 244 965 (o_load e_okI 4 967)) t_244_967
noncomputable def n_244_964 : e_Y := u_ld f_okA f_l0 n_244_965
theorem t_244_964 : e_Sn 244 964 (e_un n_244_964) := u_ldAT f_l0_eq (s_aload (i := .aload_n 0) (len := 1) hq_244 (by decide +kernel) rfl (.inr ⟨0, rfl, rfl, rfl⟩) : e_Sn 244 964 (o_load e_okR 0 965)) t_244_965
noncomputable def n_244_963 : e_Y := u_ld f_okA f_l2 n_244_964
theorem t_244_963 : e_Sn 244 963 (e_un n_244_963) := u_ldAT f_l2_eq (s_aload (i := .aload_n 2) (len := 1) hq_244 (by decide +kernel) rfl (.inr ⟨2, rfl, rfl, rfl⟩) : e_Sn 244 963 (o_load e_okR 2 964)) t_244_964
noncomputable def n_244_961 : e_Y := u_st f_okI f_s5 n_244_963
theorem t_244_961 : e_Sn 244 961 (e_un n_244_961) := u_stIT (fun _ _ _ => f_s5_eq) (s_istore (i := .istore 5) (len := 2) hq_244 (by decide +kernel) rfl (.inl ⟨rfl, rfl⟩) : e_Sn 244 961 (o_store e_okI 5 963)) t_244_963
noncomputable def n_244_958 : e_Y := u_callS 119 5 24 4 n_119_0 n_244_961
theorem t_244_958 : e_Sn 244 958 (e_un n_244_958) := u_callST rfl (s_callSW (index := 174) hq_244 ho_244 hy_119 hp_119 hc_119 hi_119 hd_119 (List.mem_of_getElem? (i := 1638) (by decide +kernel)) hs_119 (by decide +kernel) rfl : e_Sn 244 958 (o_callS 119 5 4 961)) t_119_0 t_244_961
noncomputable def n_244_957 : e_Y := u_ld f_okA f_l3 n_244_958
theorem t_244_957 : e_Sn 244 957 (e_un n_244_957) := u_ldAT f_l3_eq (s_aload (i := .aload_n 3) (len := 1) hq_244 (by decide +kernel) rfl (.inr ⟨3, rfl, rfl, rfl⟩) : e_Sn 244 957 (o_load e_okR 3 958)) t_244_958
noncomputable def n_244_956 : e_Y := u_ald 0 (u_old (o_ald e_fcs 957) n_244_957) n_244_957
theorem t_244_956 : e_Sn 244 956 (e_un n_244_956) := u_aldT (s_iald hq_244 (by decide +kernel) rfl : e_Sn 244 956 (o_ald e_fcs 957)) t_244_957
noncomputable def n_244_955 : e_Y := u_bin a_iadd (u_old (o_iadd 956) n_244_956) n_244_956
theorem t_244_955 : e_Sn 244 955 (e_un n_244_955) := u_iaddT (s_iadd hq_244 (by decide +kernel) rfl : e_Sn 244 955 (o_iadd 956)) t_244_956
noncomputable def n_244_954 : e_Y := u_push (.inl 2147483650) n_244_955
theorem t_244_954 : e_Sn 244 954 (e_un n_244_954) := u_pushT (s_iconst (n := (2)) hq_244 (by decide +kernel) rfl ⟨by decide +kernel, by decide +kernel⟩ : e_Sn 244 954 (o_push (.inl 2147483650) 955)) t_244_955
noncomputable def n_244_952 : e_Y := u_ld f_okI f_l4 n_244_954
theorem t_244_952 : e_Sn 244 952 (e_un n_244_952) := u_ldIT f_l4_eq (s_iload (i := .iload 4) (len := 2) hq_244 (by decide +kernel) rfl (.inl ⟨rfl, rfl⟩) : e_Sn 244 952 (o_load e_okI 4 954)) t_244_954
noncomputable def n_244_951 : e_Y := u_ld f_okA f_l0 n_244_952
theorem t_244_951 : e_Sn 244 951 (e_un n_244_951) := u_ldAT f_l0_eq (s_aload (i := .aload_n 0) (len := 1) hq_244 (by decide +kernel) rfl (.inr ⟨0, rfl, rfl, rfl⟩) : e_Sn 244 951 (o_load e_okR 0 952)) t_244_952
noncomputable def n_244_950 : e_Y := u_ald 0 (u_old (o_ald e_fcs 951) n_244_951) n_244_951
theorem t_244_950 : e_Sn 244 950 (e_un n_244_950) := u_aldT (s_iald hq_244 (by decide +kernel) rfl : e_Sn 244 950 (o_ald e_fcs 951)) t_244_951
noncomputable def n_244_949 : e_Y := u_bin a_iadd (u_old (o_iadd 950) n_244_950) n_244_950
theorem t_244_949 : e_Sn 244 949 (e_un n_244_949) := u_iaddT (s_iadd hq_244 (by decide +kernel) rfl : e_Sn 244 949 (o_iadd 950)) t_244_950
noncomputable def n_244_948 : e_Y := u_push (.inl 2147483649) n_244_949
theorem t_244_948 : e_Sn 244 948 (e_un n_244_948) := u_pushT (s_iconst (n := (1)) hq_244 (by decide +kernel) rfl ⟨by decide +kernel, by decide +kernel⟩ : e_Sn 244 948 (o_push (.inl 2147483649) 949)) t_244_949
noncomputable def n_244_946 : e_Y := u_ld f_okI f_l4 n_244_948
theorem t_244_946 : e_Sn 244 946 (e_un n_244_946) := u_ldIT f_l4_eq (s_iload (i := .iload 4) (len := 2) hq_244 (by decide +kernel) rfl (.inl ⟨rfl, rfl⟩) : e_Sn 244 946 (o_load e_okI 4 948)) t_244_948
noncomputable def n_244_945 : e_Y := u_ld f_okA f_l0 n_244_946
theorem t_244_945 : e_Sn 244 945 (e_un n_244_945) := u_ldAT f_l0_eq (s_aload (i := .aload_n 0) (len := 1) hq_244 (by decide +kernel) rfl (.inr ⟨0, rfl, rfl, rfl⟩) : e_Sn 244 945 (o_load e_okR 0 946)) t_244_946
noncomputable def n_244_944 : e_Y := u_ld f_okA f_l1 n_244_945
theorem t_244_944 : e_Sn 244 944 (e_un n_244_944) := u_ldAT f_l1_eq (s_aload (i := .aload_n 1) (len := 1) hq_244 (by decide +kernel) rfl (.inr ⟨1, rfl, rfl, rfl⟩) : e_Sn 244 944 (o_load e_okR 1 945)) t_244_945
noncomputable def n_244_941 : e_Y := n_244_2235
theorem t_244_941 : e_Sn 244 941 (e_un n_244_941) := u_gotoT (s_goto (off := (1294)) hq_244 (by decide +kernel) rfl : e_Sn 244 941 (o_goto 2235)) t_244_2235
noncomputable def n_244_936 : e_Y := u_if y_ne0 (u_old2 (o_ifeq 941 939) 941 n_244_941 (u_at 939)) n_244_941 (u_at 939)
theorem t_244_936 : e_Sn 244 936 (e_un n_244_936) := u_ifeqT rfl (s_ifeq (off := (5)) hq_244 (by decide +kernel) rfl rfl : e_Sn 244 936 (o_ifeq 941 939)) t_244_941 u_atT
noncomputable def n_244_935 : e_Y := u_old (o_lcmp 936) n_244_936
theorem t_244_935 : e_Sn 244 935 (e_un n_244_935) := u_oldT (s_lcmp hq_244 (by decide +kernel) rfl : e_Sn 244 935 (o_lcmp 936)) t_244_936 e_cg_lcmp
noncomputable def n_244_934 : e_Y := u_old (o_i2l 935) n_244_935
theorem t_244_934 : e_Sn 244 934 (e_un n_244_934) := u_oldT (s_i2l hq_244 (by decide +kernel) rfl : e_Sn 244 934 (o_i2l 935)) t_244_935 e_congr_i2l
noncomputable def n_244_932 : e_Y := u_ld f_okI f_l6 n_244_934
theorem t_244_932 : e_Sn 244 932 (e_un n_244_932) := u_ldIT f_l6_eq (s_iload (i := .iload 6) (len := 2) hq_244 (by decide +kernel) rfl (.inl ⟨rfl, rfl⟩) : e_Sn 244 932 (o_load e_okI 6 934)) t_244_934
noncomputable def n_244_931 : e_Y := u_ald 2 (u_old (o_aldO 2 932) n_244_932) n_244_932
theorem t_244_931 : e_Sn 244 931 (e_un n_244_931) := u_aldOT (s_lald hq_244 (by decide +kernel) rfl : e_Sn 244 931 (o_aldO 2 932)) t_244_932
noncomputable def n_244_930 : e_Y := u_push (.inl 2147483648) n_244_931
theorem t_244_930 : e_Sn 244 930 (e_un n_244_930) := u_pushT (s_iconst (n := (0)) hq_244 (by decide +kernel) rfl ⟨by decide +kernel, by decide +kernel⟩ : e_Sn 244 930 (o_push (.inl 2147483648) 931)) t_244_931
noncomputable def n_244_929 : e_Y := u_ld f_okA f_l3 n_244_930
theorem t_244_929 : e_Sn 244 929 (e_un n_244_929) := u_ldAT f_l3_eq (s_aload (i := .aload_n 3) (len := 1) hq_244 (by decide +kernel) rfl (.inr ⟨3, rfl, rfl, rfl⟩) : e_Sn 244 929 (o_load e_okR 3 930)) t_244_930
noncomputable def n_244_926 : e_Y := u_if y_ne0 (u_old2 (o_ifeq 929 941) 929 n_244_929 n_244_941) n_244_929 n_244_941
theorem t_244_926 : e_Sn 244 926 (e_un n_244_926) := u_ifeqT rfl (s_ifne (off := (15)) hq_244 (by decide +kernel) rfl rfl : e_Sn 244 926 (o_ifeq 929 941)) t_244_929 t_244_941
noncomputable def n_244_924 : e_Y := u_ld f_okI f_l5 n_244_926
theorem t_244_924 : e_Sn 244 924 (e_un n_244_924) := u_ldIT f_l5_eq (s_iload (i := .iload 5) (len := 2) hq_244 (by decide +kernel) rfl (.inl ⟨rfl, rfl⟩) : e_Sn 244 924 (o_load e_okI 5 926)) t_244_926
noncomputable def n_244_919 : e_Y := u_jmp y_ne (u_old2 (o_ceq 924 922) 924 n_244_924 (u_at 922)) n_244_924 (u_at 922)
theorem t_244_919 : e_Sn 244 919 (e_un n_244_919) := u_ceqT rfl (s_ceq (off := (5)) hq_244 (by decide +kernel) rfl rfl : e_Sn 244 919 (o_ceq 924 922)) t_244_924 u_atT
noncomputable def n_244_917 : e_Y := u_ld f_okI f_l5 n_244_919
theorem t_244_917 : e_Sn 244 917 (e_un n_244_917) := u_ldIT f_l5_eq (s_iload (i := .iload 5) (len := 2) hq_244 (by decide +kernel) rfl (.inl ⟨rfl, rfl⟩) : e_Sn 244 917 (o_load e_okI 5 919)) t_244_919
noncomputable def n_244_914 : e_Y := u_callV 12 199 1 20 1 n_199_0 n_244_917
theorem t_244_914 : e_Sn 244 914 (e_un n_244_914) := u_callVT rfl (s_callV (ci := 12) (C := er_12) (T := et_12) (N := 5) (index := 117) hq_244 ho_244 hy_199 hp_199 hc_199 hi_199 hd_199 (List.mem_of_getElem? (i := 1974) (by decide +kernel)) hs_199 (List.mem_of_getElem? (i := 1976) (by decide +kernel)) rfl (by decide +kernel) rfl : e_Sn 244 914 (o_callV (e_s1 12 199 1) 1 917)) t_199_0 t_244_917
noncomputable def n_244_913 : e_Y := u_ld f_okA f_l2 n_244_914
theorem t_244_913 : e_Sn 244 913 (e_un n_244_913) := u_ldAT f_l2_eq (s_aload (i := .aload_n 2) (len := 1) hq_244 (by decide +kernel) rfl (.inr ⟨2, rfl, rfl, rfl⟩) : e_Sn 244 913 (o_load e_okR 2 914)) t_244_914
noncomputable def n_244_911 : e_Y := u_st f_okI f_s6 n_244_913
theorem t_244_911 : e_Sn 244 911 (e_un n_244_911) := u_stIT (fun _ _ _ => f_s6_eq) (s_istore (i := .istore 6) (len := 2) hq_244 (by decide +kernel) rfl (.inl ⟨rfl, rfl⟩) : e_Sn 244 911 (o_store e_okI 6 913)) t_244_913
noncomputable def n_244_908 : e_Y := u_callV 12 196 2 21 2 n_196_0 n_244_911
theorem t_244_908 : e_Sn 244 908 (e_un n_244_908) := u_callVT rfl (s_callV (ci := 12) (C := er_12) (T := et_12) (N := 5) (index := 173) hq_244 ho_244 hy_196 hp_196 hc_196 hi_196 hd_196 (List.mem_of_getElem? (i := 2949) (by decide +kernel)) hs_196 (List.mem_of_getElem? (i := 2951) (by decide +kernel)) rfl (by decide +kernel) rfl : e_Sn 244 908 (o_callV (e_s1 12 196 2) 2 911)) t_196_0 t_244_911
noncomputable def n_244_907 : e_Y := u_ald 0 (u_old (o_ald e_fcs 908) n_244_908) n_244_908
theorem t_244_907 : e_Sn 244 907 (e_un n_244_907) := u_aldT (s_iald hq_244 (by decide +kernel) rfl : e_Sn 244 907 (o_ald e_fcs 908)) t_244_908
noncomputable def n_244_906 : e_Y := u_bin a_iadd (u_old (o_iadd 907) n_244_907) n_244_907
theorem t_244_906 : e_Sn 244 906 (e_un n_244_906) := u_iaddT (s_iadd hq_244 (by decide +kernel) rfl : e_Sn 244 906 (o_iadd 907)) t_244_907
noncomputable def n_244_905 : e_Y := u_push (.inl 2147483649) n_244_906
theorem t_244_905 : e_Sn 244 905 (e_un n_244_905) := u_pushT (s_iconst (n := (1)) hq_244 (by decide +kernel) rfl ⟨by decide +kernel, by decide +kernel⟩ : e_Sn 244 905 (o_push (.inl 2147483649) 906)) t_244_906
noncomputable def n_244_903 : e_Y := u_ld f_okI f_l4 n_244_905
theorem t_244_903 : e_Sn 244 903 (e_un n_244_903) := u_ldIT f_l4_eq (s_iload (i := .iload 4) (len := 2) hq_244 (by decide +kernel) rfl (.inl ⟨rfl, rfl⟩) : e_Sn 244 903 (o_load e_okI 4 905)) t_244_905
noncomputable def n_244_902 : e_Y := u_ld f_okA f_l0 n_244_903
theorem t_244_902 : e_Sn 244 902 (e_un n_244_902) := u_ldAT f_l0_eq (s_aload (i := .aload_n 0) (len := 1) hq_244 (by decide +kernel) rfl (.inr ⟨0, rfl, rfl, rfl⟩) : e_Sn 244 902 (o_load e_okR 0 903)) t_244_903
noncomputable def n_244_901 : e_Y := u_ld f_okA f_l2 n_244_902
theorem t_244_901 : e_Sn 244 901 (e_un n_244_901) := u_ldAT f_l2_eq (s_aload (i := .aload_n 2) (len := 1) hq_244 (by decide +kernel) rfl (.inr ⟨2, rfl, rfl, rfl⟩) : e_Sn 244 901 (o_load e_okR 2 902)) t_244_902
noncomputable def n_244_899 : e_Y := u_st f_okI f_s5 n_244_901
theorem t_244_899 : e_Sn 244 899 (e_un n_244_899) := u_stIT (fun _ _ _ => f_s5_eq) (s_istore (i := .istore 5) (len := 2) hq_244 (by decide +kernel) rfl (.inl ⟨rfl, rfl⟩) : e_Sn 244 899 (o_store e_okI 5 901)) t_244_901
noncomputable def n_244_896 : e_Y := u_callS 128 4 23 3 n_128_0 n_244_899
theorem t_244_896 : e_Sn 244 896 (e_un n_244_896) := u_callST rfl (s_callSW (index := 171) hq_244 ho_244 hy_128 hp_128 hc_128 hi_128 hd_128 (List.mem_of_getElem? (i := 1634) (by decide +kernel)) hs_128 (by decide +kernel) rfl : e_Sn 244 896 (o_callS 128 4 3 899)) t_128_0 t_244_899
noncomputable def n_244_895 : e_Y := u_ld f_okA f_l3 n_244_896
theorem t_244_895 : e_Sn 244 895 (e_un n_244_895) := u_ldAT f_l3_eq (s_aload (i := .aload_n 3) (len := 1) hq_244 (by decide +kernel) rfl (.inr ⟨3, rfl, rfl, rfl⟩) : e_Sn 244 895 (o_load e_okR 3 896)) t_244_896
noncomputable def n_244_894 : e_Y := u_ald 0 (u_old (o_ald e_fcs 895) n_244_895) n_244_895
theorem t_244_894 : e_Sn 244 894 (e_un n_244_894) := u_aldT (s_iald hq_244 (by decide +kernel) rfl : e_Sn 244 894 (o_ald e_fcs 895)) t_244_895
noncomputable def n_244_893 : e_Y := u_bin a_iadd (u_old (o_iadd 894) n_244_894) n_244_894
theorem t_244_893 : e_Sn 244 893 (e_un n_244_893) := u_iaddT (s_iadd hq_244 (by decide +kernel) rfl : e_Sn 244 893 (o_iadd 894)) t_244_894
noncomputable def n_244_892 : e_Y := u_push (.inl 2147483649) n_244_893
theorem t_244_892 : e_Sn 244 892 (e_un n_244_892) := u_pushT (s_iconst (n := (1)) hq_244 (by decide +kernel) rfl ⟨by decide +kernel, by decide +kernel⟩ : e_Sn 244 892 (o_push (.inl 2147483649) 893)) t_244_893
noncomputable def n_244_890 : e_Y := u_ld f_okI f_l4 n_244_892
theorem t_244_890 : e_Sn 244 890 (e_un n_244_890) := u_ldIT f_l4_eq (s_iload (i := .iload 4) (len := 2) hq_244 (by decide +kernel) rfl (.inl ⟨rfl, rfl⟩) : e_Sn 244 890 (o_load e_okI 4 892)) t_244_892
noncomputable def n_244_889 : e_Y := u_ld f_okA f_l0 n_244_890
theorem t_244_889 : e_Sn 244 889 (e_un n_244_889) := u_ldAT f_l0_eq (s_aload (i := .aload_n 0) (len := 1) hq_244 (by decide +kernel) rfl (.inr ⟨0, rfl, rfl, rfl⟩) : e_Sn 244 889 (o_load e_okR 0 890)) t_244_890
noncomputable def n_244_888 : e_Y := u_ld f_okA f_l1 n_244_889
theorem t_244_888 : e_Sn 244 888 (e_un n_244_888) := u_ldAT f_l1_eq (s_aload (i := .aload_n 1) (len := 1) hq_244 (by decide +kernel) rfl (.inr ⟨1, rfl, rfl, rfl⟩) : e_Sn 244 888 (o_load e_okR 1 889)) t_244_889
noncomputable def n_244_885 : e_Y := n_244_2235
theorem t_244_885 : e_Sn 244 885 (e_un n_244_885) := u_gotoT (s_goto (off := (1350)) hq_244 (by decide +kernel) rfl : e_Sn 244 885 (o_goto 2235)) t_244_2235
noncomputable def n_244_880 : e_Y := u_if y_ne0 (u_old2 (o_ifeq 885 883) 885 n_244_885 (u_at 883)) n_244_885 (u_at 883)
theorem t_244_880 : e_Sn 244 880 (e_un n_244_880) := u_ifeqT rfl (s_ifeq (off := (5)) hq_244 (by decide +kernel) rfl rfl : e_Sn 244 880 (o_ifeq 885 883)) t_244_885 u_atT
noncomputable def n_244_879 : e_Y := u_old (o_lcmp 880) n_244_880
theorem t_244_879 : e_Sn 244 879 (e_un n_244_879) := u_oldT (s_lcmp hq_244 (by decide +kernel) rfl : e_Sn 244 879 (o_lcmp 880)) t_244_880 e_cg_lcmp
noncomputable def n_244_878 : e_Y := u_old (o_i2l 879) n_244_879
theorem t_244_878 : e_Sn 244 878 (e_un n_244_878) := u_oldT (s_i2l hq_244 (by decide +kernel) rfl : e_Sn 244 878 (o_i2l 879)) t_244_879 e_congr_i2l
noncomputable def n_244_876 : e_Y := u_ld f_okI f_l6 n_244_878
theorem t_244_876 : e_Sn 244 876 (e_un n_244_876) := u_ldIT f_l6_eq (s_iload (i := .iload 6) (len := 2) hq_244 (by decide +kernel) rfl (.inl ⟨rfl, rfl⟩) : e_Sn 244 876 (o_load e_okI 6 878)) t_244_878
noncomputable def n_244_875 : e_Y := u_ald 2 (u_old (o_aldO 2 876) n_244_876) n_244_876
theorem t_244_875 : e_Sn 244 875 (e_un n_244_875) := u_aldOT (s_lald hq_244 (by decide +kernel) rfl : e_Sn 244 875 (o_aldO 2 876)) t_244_876
noncomputable def n_244_874 : e_Y := u_push (.inl 2147483648) n_244_875
theorem t_244_874 : e_Sn 244 874 (e_un n_244_874) := u_pushT (s_iconst (n := (0)) hq_244 (by decide +kernel) rfl ⟨by decide +kernel, by decide +kernel⟩ : e_Sn 244 874 (o_push (.inl 2147483648) 875)) t_244_875
noncomputable def n_244_873 : e_Y := u_ld f_okA f_l3 n_244_874
theorem t_244_873 : e_Sn 244 873 (e_un n_244_873) := u_ldAT f_l3_eq (s_aload (i := .aload_n 3) (len := 1) hq_244 (by decide +kernel) rfl (.inr ⟨3, rfl, rfl, rfl⟩) : e_Sn 244 873 (o_load e_okR 3 874)) t_244_874
noncomputable def n_244_870 : e_Y := u_if y_ne0 (u_old2 (o_ifeq 873 885) 873 n_244_873 n_244_885) n_244_873 n_244_885
theorem t_244_870 : e_Sn 244 870 (e_un n_244_870) := u_ifeqT rfl (s_ifne (off := (15)) hq_244 (by decide +kernel) rfl rfl : e_Sn 244 870 (o_ifeq 873 885)) t_244_873 t_244_885
noncomputable def n_244_868 : e_Y := u_ld f_okI f_l5 n_244_870
theorem t_244_868 : e_Sn 244 868 (e_un n_244_868) := u_ldIT f_l5_eq (s_iload (i := .iload 5) (len := 2) hq_244 (by decide +kernel) rfl (.inl ⟨rfl, rfl⟩) : e_Sn 244 868 (o_load e_okI 5 870)) t_244_870
noncomputable def n_244_863 : e_Y := u_jmp y_ne (u_old2 (o_ceq 868 866) 868 n_244_868 (u_at 866)) n_244_868 (u_at 866)
theorem t_244_863 : e_Sn 244 863 (e_un n_244_863) := u_ceqT rfl (s_ceq (off := (5)) hq_244 (by decide +kernel) rfl rfl : e_Sn 244 863 (o_ceq 868 866)) t_244_868 u_atT
noncomputable def n_244_861 : e_Y := u_ld f_okI f_l5 n_244_863
theorem t_244_861 : e_Sn 244 861 (e_un n_244_861) := u_ldIT f_l5_eq (s_iload (i := .iload 5) (len := 2) hq_244 (by decide +kernel) rfl (.inl ⟨rfl, rfl⟩) : e_Sn 244 861 (o_load e_okI 5 863)) t_244_863
noncomputable def n_244_858 : e_Y := u_callV 12 199 1 20 1 n_199_0 n_244_861
theorem t_244_858 : e_Sn 244 858 (e_un n_244_858) := u_callVT rfl (s_callV (ci := 12) (C := er_12) (T := et_12) (N := 5) (index := 117) hq_244 ho_244 hy_199 hp_199 hc_199 hi_199 hd_199 (List.mem_of_getElem? (i := 1974) (by decide +kernel)) hs_199 (List.mem_of_getElem? (i := 1976) (by decide +kernel)) rfl (by decide +kernel) rfl : e_Sn 244 858 (o_callV (e_s1 12 199 1) 1 861)) t_199_0 t_244_861
noncomputable def n_244_857 : e_Y := u_ld f_okA f_l2 n_244_858
theorem t_244_857 : e_Sn 244 857 (e_un n_244_857) := u_ldAT f_l2_eq (s_aload (i := .aload_n 2) (len := 1) hq_244 (by decide +kernel) rfl (.inr ⟨2, rfl, rfl, rfl⟩) : e_Sn 244 857 (o_load e_okR 2 858)) t_244_858
noncomputable def n_244_855 : e_Y := u_st f_okI f_s6 n_244_857
theorem t_244_855 : e_Sn 244 855 (e_un n_244_855) := u_stIT (fun _ _ _ => f_s6_eq) (s_istore (i := .istore 6) (len := 2) hq_244 (by decide +kernel) rfl (.inl ⟨rfl, rfl⟩) : e_Sn 244 855 (o_store e_okI 6 857)) t_244_857
noncomputable def n_244_852 : e_Y := u_callV 12 145 2 21 2 n_145_0 n_244_855
theorem t_244_852 : e_Sn 244 852 (e_un n_244_852) := u_callVT rfl (s_callV (ci := 12) (C := er_12) (T := et_12) (N := 5) (index := 170) hq_244 ho_244 hy_145 hp_145 hc_145 hi_145 hd_145 (List.mem_of_getElem? (i := 2945) (by decide +kernel)) hs_145 (List.mem_of_getElem? (i := 2947) (by decide +kernel)) rfl (by decide +kernel) rfl : e_Sn 244 852 (o_callV (e_s1 12 145 2) 2 855)) t_145_0 t_244_855
noncomputable def n_244_851 : e_Y := u_ald 0 (u_old (o_ald e_fcs 852) n_244_852) n_244_852
theorem t_244_851 : e_Sn 244 851 (e_un n_244_851) := u_aldT (s_iald hq_244 (by decide +kernel) rfl : e_Sn 244 851 (o_ald e_fcs 852)) t_244_852
noncomputable def n_244_850 : e_Y := u_bin a_iadd (u_old (o_iadd 851) n_244_851) n_244_851
theorem t_244_850 : e_Sn 244 850 (e_un n_244_850) := u_iaddT (s_iadd hq_244 (by decide +kernel) rfl : e_Sn 244 850 (o_iadd 851)) t_244_851
noncomputable def n_244_849 : e_Y := u_push (.inl 2147483649) n_244_850
theorem t_244_849 : e_Sn 244 849 (e_un n_244_849) := u_pushT (s_iconst (n := (1)) hq_244 (by decide +kernel) rfl ⟨by decide +kernel, by decide +kernel⟩ : e_Sn 244 849 (o_push (.inl 2147483649) 850)) t_244_850
noncomputable def n_244_847 : e_Y := u_ld f_okI f_l4 n_244_849
theorem t_244_847 : e_Sn 244 847 (e_un n_244_847) := u_ldIT f_l4_eq (s_iload (i := .iload 4) (len := 2) hq_244 (by decide +kernel) rfl (.inl ⟨rfl, rfl⟩) : e_Sn 244 847 (o_load e_okI 4 849)) t_244_849
noncomputable def n_244_846 : e_Y := u_ld f_okA f_l0 n_244_847
theorem t_244_846 : e_Sn 244 846 (e_un n_244_846) := u_ldAT f_l0_eq (s_aload (i := .aload_n 0) (len := 1) hq_244 (by decide +kernel) rfl (.inr ⟨0, rfl, rfl, rfl⟩) : e_Sn 244 846 (o_load e_okR 0 847)) t_244_847
noncomputable def n_244_845 : e_Y := u_ld f_okA f_l2 n_244_846
theorem t_244_845 : e_Sn 244 845 (e_un n_244_845) := u_ldAT f_l2_eq (s_aload (i := .aload_n 2) (len := 1) hq_244 (by decide +kernel) rfl (.inr ⟨2, rfl, rfl, rfl⟩) : e_Sn 244 845 (o_load e_okR 2 846)) t_244_846
noncomputable def n_244_843 : e_Y := u_st f_okI f_s5 n_244_845
theorem t_244_843 : e_Sn 244 843 (e_un n_244_843) := u_stIT (fun _ _ _ => f_s5_eq) (s_istore (i := .istore 5) (len := 2) hq_244 (by decide +kernel) rfl (.inl ⟨rfl, rfl⟩) : e_Sn 244 843 (o_store e_okI 5 845)) t_244_845
noncomputable def n_244_840 : e_Y := u_callS 107 4 23 3 n_107_0 n_244_843
theorem t_244_840 : e_Sn 244 840 (e_un n_244_840) := u_callST rfl (s_callSW (index := 168) hq_244 ho_244 hy_107 hp_107 hc_107 hi_107 hd_107 (List.mem_of_getElem? (i := 1630) (by decide +kernel)) hs_107 (by decide +kernel) rfl : e_Sn 244 840 (o_callS 107 4 3 843)) t_107_0 t_244_843
noncomputable def n_244_839 : e_Y := u_ld f_okA f_l3 n_244_840
theorem t_244_839 : e_Sn 244 839 (e_un n_244_839) := u_ldAT f_l3_eq (s_aload (i := .aload_n 3) (len := 1) hq_244 (by decide +kernel) rfl (.inr ⟨3, rfl, rfl, rfl⟩) : e_Sn 244 839 (o_load e_okR 3 840)) t_244_840
noncomputable def n_244_838 : e_Y := u_ald 0 (u_old (o_ald e_fcs 839) n_244_839) n_244_839
theorem t_244_838 : e_Sn 244 838 (e_un n_244_838) := u_aldT (s_iald hq_244 (by decide +kernel) rfl : e_Sn 244 838 (o_ald e_fcs 839)) t_244_839
noncomputable def n_244_837 : e_Y := u_bin a_iadd (u_old (o_iadd 838) n_244_838) n_244_838
theorem t_244_837 : e_Sn 244 837 (e_un n_244_837) := u_iaddT (s_iadd hq_244 (by decide +kernel) rfl : e_Sn 244 837 (o_iadd 838)) t_244_838
noncomputable def n_244_836 : e_Y := u_push (.inl 2147483649) n_244_837
theorem t_244_836 : e_Sn 244 836 (e_un n_244_836) := u_pushT (s_iconst (n := (1)) hq_244 (by decide +kernel) rfl ⟨by decide +kernel, by decide +kernel⟩ : e_Sn 244 836 (o_push (.inl 2147483649) 837)) t_244_837
noncomputable def n_244_834 : e_Y := u_ld f_okI f_l4 n_244_836
theorem t_244_834 : e_Sn 244 834 (e_un n_244_834) := u_ldIT f_l4_eq (s_iload (i := .iload 4) (len := 2) hq_244 (by decide +kernel) rfl (.inl ⟨rfl, rfl⟩) : e_Sn 244 834 (o_load e_okI 4 836)) t_244_836
noncomputable def n_244_833 : e_Y := u_ld f_okA f_l0 n_244_834
theorem t_244_833 : e_Sn 244 833 (e_un n_244_833) := u_ldAT f_l0_eq (s_aload (i := .aload_n 0) (len := 1) hq_244 (by decide +kernel) rfl (.inr ⟨0, rfl, rfl, rfl⟩) : e_Sn 244 833 (o_load e_okR 0 834)) t_244_834
noncomputable def n_244_832 : e_Y := u_ld f_okA f_l1 n_244_833
theorem t_244_832 : e_Sn 244 832 (e_un n_244_832) := u_ldAT f_l1_eq (s_aload (i := .aload_n 1) (len := 1) hq_244 (by decide +kernel) rfl (.inr ⟨1, rfl, rfl, rfl⟩) : e_Sn 244 832 (o_load e_okR 1 833)) t_244_833
noncomputable def n_244_829 : e_Y := n_244_2235
theorem t_244_829 : e_Sn 244 829 (e_un n_244_829) := u_gotoT (s_goto (off := (1406)) hq_244 (by decide +kernel) rfl : e_Sn 244 829 (o_goto 2235)) t_244_2235
noncomputable def n_244_824 : e_Y := u_if y_ne0 (u_old2 (o_ifeq 829 827) 829 n_244_829 (u_at 827)) n_244_829 (u_at 827)
theorem t_244_824 : e_Sn 244 824 (e_un n_244_824) := u_ifeqT rfl (s_ifeq (off := (5)) hq_244 (by decide +kernel) rfl rfl : e_Sn 244 824 (o_ifeq 829 827)) t_244_829 u_atT
noncomputable def n_244_823 : e_Y := u_old (o_lcmp 824) n_244_824
theorem t_244_823 : e_Sn 244 823 (e_un n_244_823) := u_oldT (s_lcmp hq_244 (by decide +kernel) rfl : e_Sn 244 823 (o_lcmp 824)) t_244_824 e_cg_lcmp
noncomputable def n_244_822 : e_Y := u_old (o_i2l 823) n_244_823
theorem t_244_822 : e_Sn 244 822 (e_un n_244_822) := u_oldT (s_i2l hq_244 (by decide +kernel) rfl : e_Sn 244 822 (o_i2l 823)) t_244_823 e_congr_i2l
noncomputable def n_244_820 : e_Y := u_ld f_okI f_l6 n_244_822
theorem t_244_820 : e_Sn 244 820 (e_un n_244_820) := u_ldIT f_l6_eq (s_iload (i := .iload 6) (len := 2) hq_244 (by decide +kernel) rfl (.inl ⟨rfl, rfl⟩) : e_Sn 244 820 (o_load e_okI 6 822)) t_244_822
noncomputable def n_244_819 : e_Y := u_ald 2 (u_old (o_aldO 2 820) n_244_820) n_244_820
theorem t_244_819 : e_Sn 244 819 (e_un n_244_819) := u_aldOT (s_lald hq_244 (by decide +kernel) rfl : e_Sn 244 819 (o_aldO 2 820)) t_244_820
noncomputable def n_244_818 : e_Y := u_push (.inl 2147483648) n_244_819
theorem t_244_818 : e_Sn 244 818 (e_un n_244_818) := u_pushT (s_iconst (n := (0)) hq_244 (by decide +kernel) rfl ⟨by decide +kernel, by decide +kernel⟩ : e_Sn 244 818 (o_push (.inl 2147483648) 819)) t_244_819
noncomputable def n_244_817 : e_Y := u_ld f_okA f_l3 n_244_818
theorem t_244_817 : e_Sn 244 817 (e_un n_244_817) := u_ldAT f_l3_eq (s_aload (i := .aload_n 3) (len := 1) hq_244 (by decide +kernel) rfl (.inr ⟨3, rfl, rfl, rfl⟩) : e_Sn 244 817 (o_load e_okR 3 818)) t_244_818
noncomputable def n_244_814 : e_Y := u_if y_ne0 (u_old2 (o_ifeq 817 829) 817 n_244_817 n_244_829) n_244_817 n_244_829
theorem t_244_814 : e_Sn 244 814 (e_un n_244_814) := u_ifeqT rfl (s_ifne (off := (15)) hq_244 (by decide +kernel) rfl rfl : e_Sn 244 814 (o_ifeq 817 829)) t_244_817 t_244_829
noncomputable def n_244_812 : e_Y := u_ld f_okI f_l5 n_244_814
theorem t_244_812 : e_Sn 244 812 (e_un n_244_812) := u_ldIT f_l5_eq (s_iload (i := .iload 5) (len := 2) hq_244 (by decide +kernel) rfl (.inl ⟨rfl, rfl⟩) : e_Sn 244 812 (o_load e_okI 5 814)) t_244_814
noncomputable def n_244_807 : e_Y := u_jmp y_ne (u_old2 (o_ceq 812 810) 812 n_244_812 (u_at 810)) n_244_812 (u_at 810)
theorem t_244_807 : e_Sn 244 807 (e_un n_244_807) := u_ceqT rfl (s_ceq (off := (5)) hq_244 (by decide +kernel) rfl rfl : e_Sn 244 807 (o_ceq 812 810)) t_244_812 u_atT
noncomputable def n_244_805 : e_Y := u_ld f_okI f_l5 n_244_807
theorem t_244_805 : e_Sn 244 805 (e_un n_244_805) := u_ldIT f_l5_eq (s_iload (i := .iload 5) (len := 2) hq_244 (by decide +kernel) rfl (.inl ⟨rfl, rfl⟩) : e_Sn 244 805 (o_load e_okI 5 807)) t_244_807
noncomputable def n_244_802 : e_Y := u_callV 12 199 1 20 1 n_199_0 n_244_805
theorem t_244_802 : e_Sn 244 802 (e_un n_244_802) := u_callVT rfl (s_callV (ci := 12) (C := er_12) (T := et_12) (N := 5) (index := 117) hq_244 ho_244 hy_199 hp_199 hc_199 hi_199 hd_199 (List.mem_of_getElem? (i := 1974) (by decide +kernel)) hs_199 (List.mem_of_getElem? (i := 1976) (by decide +kernel)) rfl (by decide +kernel) rfl : e_Sn 244 802 (o_callV (e_s1 12 199 1) 1 805)) t_199_0 t_244_805
noncomputable def n_244_801 : e_Y := u_ld f_okA f_l2 n_244_802
theorem t_244_801 : e_Sn 244 801 (e_un n_244_801) := u_ldAT f_l2_eq (s_aload (i := .aload_n 2) (len := 1) hq_244 (by decide +kernel) rfl (.inr ⟨2, rfl, rfl, rfl⟩) : e_Sn 244 801 (o_load e_okR 2 802)) t_244_802
noncomputable def n_244_799 : e_Y := u_st f_okI f_s6 n_244_801
theorem t_244_799 : e_Sn 244 799 (e_un n_244_799) := u_stIT (fun _ _ _ => f_s6_eq) (s_istore (i := .istore 6) (len := 2) hq_244 (by decide +kernel) rfl (.inl ⟨rfl, rfl⟩) : e_Sn 244 799 (o_store e_okI 6 801)) t_244_801
noncomputable def n_244_796 : e_Y := u_callV 12 140 2 21 2 n_140_0 n_244_799
theorem t_244_796 : e_Sn 244 796 (e_un n_244_796) := u_callVT rfl (s_callV (ci := 12) (C := er_12) (T := et_12) (N := 5) (index := 167) hq_244 ho_244 hy_140 hp_140 hc_140 hi_140 hd_140 (List.mem_of_getElem? (i := 2937) (by decide +kernel)) hs_140 (List.mem_of_getElem? (i := 2939) (by decide +kernel)) rfl (by decide +kernel) rfl : e_Sn 244 796 (o_callV (e_s1 12 140 2) 2 799)) t_140_0 t_244_799
noncomputable def n_244_795 : e_Y := u_ald 0 (u_old (o_ald e_fcs 796) n_244_796) n_244_796
theorem t_244_795 : e_Sn 244 795 (e_un n_244_795) := u_aldT (s_iald hq_244 (by decide +kernel) rfl : e_Sn 244 795 (o_ald e_fcs 796)) t_244_796
noncomputable def n_244_794 : e_Y := u_bin a_iadd (u_old (o_iadd 795) n_244_795) n_244_795
theorem t_244_794 : e_Sn 244 794 (e_un n_244_794) := u_iaddT (s_iadd hq_244 (by decide +kernel) rfl : e_Sn 244 794 (o_iadd 795)) t_244_795
noncomputable def n_244_793 : e_Y := u_push (.inl 2147483649) n_244_794
theorem t_244_793 : e_Sn 244 793 (e_un n_244_793) := u_pushT (s_iconst (n := (1)) hq_244 (by decide +kernel) rfl ⟨by decide +kernel, by decide +kernel⟩ : e_Sn 244 793 (o_push (.inl 2147483649) 794)) t_244_794
noncomputable def n_244_791 : e_Y := u_ld f_okI f_l4 n_244_793
theorem t_244_791 : e_Sn 244 791 (e_un n_244_791) := u_ldIT f_l4_eq (s_iload (i := .iload 4) (len := 2) hq_244 (by decide +kernel) rfl (.inl ⟨rfl, rfl⟩) : e_Sn 244 791 (o_load e_okI 4 793)) t_244_793
noncomputable def n_244_790 : e_Y := u_ld f_okA f_l0 n_244_791
theorem t_244_790 : e_Sn 244 790 (e_un n_244_790) := u_ldAT f_l0_eq (s_aload (i := .aload_n 0) (len := 1) hq_244 (by decide +kernel) rfl (.inr ⟨0, rfl, rfl, rfl⟩) : e_Sn 244 790 (o_load e_okR 0 791)) t_244_791
noncomputable def n_244_789 : e_Y := u_ld f_okA f_l2 n_244_790
theorem t_244_789 : e_Sn 244 789 (e_un n_244_789) := u_ldAT f_l2_eq (s_aload (i := .aload_n 2) (len := 1) hq_244 (by decide +kernel) rfl (.inr ⟨2, rfl, rfl, rfl⟩) : e_Sn 244 789 (o_load e_okR 2 790)) t_244_790
noncomputable def n_244_787 : e_Y := u_st f_okI f_s5 n_244_789
theorem t_244_787 : e_Sn 244 787 (e_un n_244_787) := u_stIT (fun _ _ _ => f_s5_eq) (s_istore (i := .istore 5) (len := 2) hq_244 (by decide +kernel) rfl (.inl ⟨rfl, rfl⟩) : e_Sn 244 787 (o_store e_okI 5 789)) t_244_789
noncomputable def n_244_784 : e_Y := u_callS 105 4 23 3 n_105_0 n_244_787
theorem t_244_784 : e_Sn 244 784 (e_un n_244_784) := u_callST rfl (s_callSW (index := 165) hq_244 ho_244 hy_105 hp_105 hc_105 hi_105 hd_105 (List.mem_of_getElem? (i := 1626) (by decide +kernel)) hs_105 (by decide +kernel) rfl : e_Sn 244 784 (o_callS 105 4 3 787)) t_105_0 t_244_787
noncomputable def n_244_783 : e_Y := u_ld f_okA f_l3 n_244_784
theorem t_244_783 : e_Sn 244 783 (e_un n_244_783) := u_ldAT f_l3_eq (s_aload (i := .aload_n 3) (len := 1) hq_244 (by decide +kernel) rfl (.inr ⟨3, rfl, rfl, rfl⟩) : e_Sn 244 783 (o_load e_okR 3 784)) t_244_784
noncomputable def n_244_782 : e_Y := u_ald 0 (u_old (o_ald e_fcs 783) n_244_783) n_244_783
theorem t_244_782 : e_Sn 244 782 (e_un n_244_782) := u_aldT (s_iald hq_244 (by decide +kernel) rfl : e_Sn 244 782 (o_ald e_fcs 783)) t_244_783
noncomputable def n_244_781 : e_Y := u_bin a_iadd (u_old (o_iadd 782) n_244_782) n_244_782
theorem t_244_781 : e_Sn 244 781 (e_un n_244_781) := u_iaddT (s_iadd hq_244 (by decide +kernel) rfl : e_Sn 244 781 (o_iadd 782)) t_244_782
noncomputable def n_244_780 : e_Y := u_push (.inl 2147483649) n_244_781
theorem t_244_780 : e_Sn 244 780 (e_un n_244_780) := u_pushT (s_iconst (n := (1)) hq_244 (by decide +kernel) rfl ⟨by decide +kernel, by decide +kernel⟩ : e_Sn 244 780 (o_push (.inl 2147483649) 781)) t_244_781
noncomputable def n_244_778 : e_Y := u_ld f_okI f_l4 n_244_780
theorem t_244_778 : e_Sn 244 778 (e_un n_244_778) := u_ldIT f_l4_eq (s_iload (i := .iload 4) (len := 2) hq_244 (by decide +kernel) rfl (.inl ⟨rfl, rfl⟩) : e_Sn 244 778 (o_load e_okI 4 780)) t_244_780
noncomputable def n_244_777 : e_Y := u_ld f_okA f_l0 n_244_778
theorem t_244_777 : e_Sn 244 777 (e_un n_244_777) := u_ldAT f_l0_eq (s_aload (i := .aload_n 0) (len := 1) hq_244 (by decide +kernel) rfl (.inr ⟨0, rfl, rfl, rfl⟩) : e_Sn 244 777 (o_load e_okR 0 778)) t_244_778
noncomputable def n_244_776 : e_Y := u_ld f_okA f_l1 n_244_777
theorem t_244_776 : e_Sn 244 776 (e_un n_244_776) := u_ldAT f_l1_eq (s_aload (i := .aload_n 1) (len := 1) hq_244 (by decide +kernel) rfl (.inr ⟨1, rfl, rfl, rfl⟩) : e_Sn 244 776 (o_load e_okR 1 777)) t_244_777
noncomputable def n_244_773 : e_Y := n_244_2235
theorem t_244_773 : e_Sn 244 773 (e_un n_244_773) := u_gotoT (s_goto (off := (1462)) hq_244 (by decide +kernel) rfl : e_Sn 244 773 (o_goto 2235)) t_244_2235
noncomputable def n_244_768 : e_Y := u_if y_ne0 (u_old2 (o_ifeq 773 771) 773 n_244_773 (u_at 771)) n_244_773 (u_at 771)
theorem t_244_768 : e_Sn 244 768 (e_un n_244_768) := u_ifeqT rfl (s_ifeq (off := (5)) hq_244 (by decide +kernel) rfl rfl : e_Sn 244 768 (o_ifeq 773 771)) t_244_773 u_atT
noncomputable def n_244_767 : e_Y := u_old (o_lcmp 768) n_244_768
theorem t_244_767 : e_Sn 244 767 (e_un n_244_767) := u_oldT (s_lcmp hq_244 (by decide +kernel) rfl : e_Sn 244 767 (o_lcmp 768)) t_244_768 e_cg_lcmp
noncomputable def n_244_766 : e_Y := u_old (o_i2l 767) n_244_767
theorem t_244_766 : e_Sn 244 766 (e_un n_244_766) := u_oldT (s_i2l hq_244 (by decide +kernel) rfl : e_Sn 244 766 (o_i2l 767)) t_244_767 e_congr_i2l
noncomputable def n_244_764 : e_Y := u_ld f_okI f_l6 n_244_766
theorem t_244_764 : e_Sn 244 764 (e_un n_244_764) := u_ldIT f_l6_eq (s_iload (i := .iload 6) (len := 2) hq_244 (by decide +kernel) rfl (.inl ⟨rfl, rfl⟩) : e_Sn 244 764 (o_load e_okI 6 766)) t_244_766
noncomputable def n_244_763 : e_Y := u_ald 2 (u_old (o_aldO 2 764) n_244_764) n_244_764
theorem t_244_763 : e_Sn 244 763 (e_un n_244_763) := u_aldOT (s_lald hq_244 (by decide +kernel) rfl : e_Sn 244 763 (o_aldO 2 764)) t_244_764
noncomputable def n_244_762 : e_Y := u_push (.inl 2147483648) n_244_763
theorem t_244_762 : e_Sn 244 762 (e_un n_244_762) := u_pushT (s_iconst (n := (0)) hq_244 (by decide +kernel) rfl ⟨by decide +kernel, by decide +kernel⟩ : e_Sn 244 762 (o_push (.inl 2147483648) 763)) t_244_763
noncomputable def n_244_761 : e_Y := u_ld f_okA f_l3 n_244_762
theorem t_244_761 : e_Sn 244 761 (e_un n_244_761) := u_ldAT f_l3_eq (s_aload (i := .aload_n 3) (len := 1) hq_244 (by decide +kernel) rfl (.inr ⟨3, rfl, rfl, rfl⟩) : e_Sn 244 761 (o_load e_okR 3 762)) t_244_762
noncomputable def n_244_758 : e_Y := u_if y_ne0 (u_old2 (o_ifeq 761 773) 761 n_244_761 n_244_773) n_244_761 n_244_773
theorem t_244_758 : e_Sn 244 758 (e_un n_244_758) := u_ifeqT rfl (s_ifne (off := (15)) hq_244 (by decide +kernel) rfl rfl : e_Sn 244 758 (o_ifeq 761 773)) t_244_761 t_244_773
noncomputable def n_244_756 : e_Y := u_ld f_okI f_l5 n_244_758
theorem t_244_756 : e_Sn 244 756 (e_un n_244_756) := u_ldIT f_l5_eq (s_iload (i := .iload 5) (len := 2) hq_244 (by decide +kernel) rfl (.inl ⟨rfl, rfl⟩) : e_Sn 244 756 (o_load e_okI 5 758)) t_244_758
noncomputable def n_244_751 : e_Y := u_jmp y_ne (u_old2 (o_ceq 756 754) 756 n_244_756 (u_at 754)) n_244_756 (u_at 754)
theorem t_244_751 : e_Sn 244 751 (e_un n_244_751) := u_ceqT rfl (s_ceq (off := (5)) hq_244 (by decide +kernel) rfl rfl : e_Sn 244 751 (o_ceq 756 754)) t_244_756 u_atT
noncomputable def n_244_749 : e_Y := u_ld f_okI f_l5 n_244_751
theorem t_244_749 : e_Sn 244 749 (e_un n_244_749) := u_ldIT f_l5_eq (s_iload (i := .iload 5) (len := 2) hq_244 (by decide +kernel) rfl (.inl ⟨rfl, rfl⟩) : e_Sn 244 749 (o_load e_okI 5 751)) t_244_751
noncomputable def n_244_746 : e_Y := u_callV 12 199 1 20 1 n_199_0 n_244_749
theorem t_244_746 : e_Sn 244 746 (e_un n_244_746) := u_callVT rfl (s_callV (ci := 12) (C := er_12) (T := et_12) (N := 5) (index := 117) hq_244 ho_244 hy_199 hp_199 hc_199 hi_199 hd_199 (List.mem_of_getElem? (i := 1974) (by decide +kernel)) hs_199 (List.mem_of_getElem? (i := 1976) (by decide +kernel)) rfl (by decide +kernel) rfl : e_Sn 244 746 (o_callV (e_s1 12 199 1) 1 749)) t_199_0 t_244_749
noncomputable def n_244_745 : e_Y := u_ld f_okA f_l2 n_244_746
theorem t_244_745 : e_Sn 244 745 (e_un n_244_745) := u_ldAT f_l2_eq (s_aload (i := .aload_n 2) (len := 1) hq_244 (by decide +kernel) rfl (.inr ⟨2, rfl, rfl, rfl⟩) : e_Sn 244 745 (o_load e_okR 2 746)) t_244_746
noncomputable def n_244_743 : e_Y := u_st f_okI f_s6 n_244_745
theorem t_244_743 : e_Sn 244 743 (e_un n_244_743) := u_stIT (fun _ _ _ => f_s6_eq) (s_istore (i := .istore 6) (len := 2) hq_244 (by decide +kernel) rfl (.inl ⟨rfl, rfl⟩) : e_Sn 244 743 (o_store e_okI 6 745)) t_244_745
noncomputable def n_244_740 : e_Y := u_callV 12 178 3 22 3 n_178_0 n_244_743
theorem t_244_740 : e_Sn 244 740 (e_un n_244_740) := u_callVT rfl (s_callV (ci := 12) (C := er_12) (T := et_12) (N := 5) (index := 164) hq_244 ho_244 hy_178 hp_178 hc_178 hi_178 hd_178 (List.mem_of_getElem? (i := 2929) (by decide +kernel)) hs_178 (List.mem_of_getElem? (i := 2931) (by decide +kernel)) rfl (by decide +kernel) rfl : e_Sn 244 740 (o_callV (e_s1 12 178 3) 3 743)) t_178_0 t_244_743
noncomputable def n_244_739 : e_Y := u_ald 0 (u_old (o_ald e_fcs 740) n_244_740) n_244_740
theorem t_244_739 : e_Sn 244 739 (e_un n_244_739) := u_aldT (s_iald hq_244 (by decide +kernel) rfl : e_Sn 244 739 (o_ald e_fcs 740)) t_244_740
noncomputable def n_244_738 : e_Y := u_bin a_iadd (u_old (o_iadd 739) n_244_739) n_244_739
theorem t_244_738 : e_Sn 244 738 (e_un n_244_738) := u_iaddT (s_iadd hq_244 (by decide +kernel) rfl : e_Sn 244 738 (o_iadd 739)) t_244_739
noncomputable def n_244_737 : e_Y := u_push (.inl 2147483650) n_244_738
theorem t_244_737 : e_Sn 244 737 (e_un n_244_737) := u_pushT (s_iconst (n := (2)) hq_244 (by decide +kernel) rfl ⟨by decide +kernel, by decide +kernel⟩ : e_Sn 244 737 (o_push (.inl 2147483650) 738)) t_244_738
noncomputable def n_244_735 : e_Y := u_ld f_okI f_l4 n_244_737
theorem t_244_735 : e_Sn 244 735 (e_un n_244_735) := u_ldIT f_l4_eq (s_iload (i := .iload 4) (len := 2) hq_244 (by decide +kernel) rfl (.inl ⟨rfl, rfl⟩) : e_Sn 244 735 (o_load e_okI 4 737)) t_244_737
noncomputable def n_244_734 : e_Y := u_ld f_okA f_l0 n_244_735
theorem t_244_734 : e_Sn 244 734 (e_un n_244_734) := u_ldAT f_l0_eq (s_aload (i := .aload_n 0) (len := 1) hq_244 (by decide +kernel) rfl (.inr ⟨0, rfl, rfl, rfl⟩) : e_Sn 244 734 (o_load e_okR 0 735)) t_244_735
noncomputable def n_244_733 : e_Y := u_ald 0 (u_old (o_ald e_fcs 734) n_244_734) n_244_734
theorem t_244_733 : e_Sn 244 733 (e_un n_244_733) := u_aldT (s_iald hq_244 (by decide +kernel) rfl : e_Sn 244 733 (o_ald e_fcs 734)) t_244_734
noncomputable def n_244_732 : e_Y := u_bin a_iadd (u_old (o_iadd 733) n_244_733) n_244_733
theorem t_244_732 : e_Sn 244 732 (e_un n_244_732) := u_iaddT (s_iadd hq_244 (by decide +kernel) rfl : e_Sn 244 732 (o_iadd 733)) t_244_733
noncomputable def n_244_731 : e_Y := u_push (.inl 2147483649) n_244_732
theorem t_244_731 : e_Sn 244 731 (e_un n_244_731) := u_pushT (s_iconst (n := (1)) hq_244 (by decide +kernel) rfl ⟨by decide +kernel, by decide +kernel⟩ : e_Sn 244 731 (o_push (.inl 2147483649) 732)) t_244_732
noncomputable def n_244_729 : e_Y := u_ld f_okI f_l4 n_244_731
theorem t_244_729 : e_Sn 244 729 (e_un n_244_729) := u_ldIT f_l4_eq (s_iload (i := .iload 4) (len := 2) hq_244 (by decide +kernel) rfl (.inl ⟨rfl, rfl⟩) : e_Sn 244 729 (o_load e_okI 4 731)) t_244_731
noncomputable def n_244_728 : e_Y := u_ld f_okA f_l0 n_244_729
theorem t_244_728 : e_Sn 244 728 (e_un n_244_728) := u_ldAT f_l0_eq (s_aload (i := .aload_n 0) (len := 1) hq_244 (by decide +kernel) rfl (.inr ⟨0, rfl, rfl, rfl⟩) : e_Sn 244 728 (o_load e_okR 0 729)) t_244_729
noncomputable def n_244_727 : e_Y := u_ld f_okA f_l2 n_244_728
theorem t_244_727 : e_Sn 244 727 (e_un n_244_727) := u_ldAT f_l2_eq (s_aload (i := .aload_n 2) (len := 1) hq_244 (by decide +kernel) rfl (.inr ⟨2, rfl, rfl, rfl⟩) : e_Sn 244 727 (o_load e_okR 2 728)) t_244_728
noncomputable def n_244_725 : e_Y := u_st f_okI f_s5 n_244_727
theorem t_244_725 : e_Sn 244 725 (e_un n_244_725) := u_stIT (fun _ _ _ => f_s5_eq) (s_istore (i := .istore 5) (len := 2) hq_244 (by decide +kernel) rfl (.inl ⟨rfl, rfl⟩) : e_Sn 244 725 (o_store e_okI 5 727)) t_244_727
noncomputable def n_244_722 : e_Y := u_callS 121 5 24 4 n_121_0 n_244_725
theorem t_244_722 : e_Sn 244 722 (e_un n_244_722) := u_callST rfl (s_callSW (index := 162) hq_244 ho_244 hy_121 hp_121 hc_121 hi_121 hd_121 (List.mem_of_getElem? (i := 1622) (by decide +kernel)) hs_121 (by decide +kernel) rfl : e_Sn 244 722 (o_callS 121 5 4 725)) t_121_0 t_244_725
noncomputable def n_244_721 : e_Y := u_ld f_okA f_l3 n_244_722
theorem t_244_721 : e_Sn 244 721 (e_un n_244_721) := u_ldAT f_l3_eq (s_aload (i := .aload_n 3) (len := 1) hq_244 (by decide +kernel) rfl (.inr ⟨3, rfl, rfl, rfl⟩) : e_Sn 244 721 (o_load e_okR 3 722)) t_244_722
noncomputable def n_244_720 : e_Y := u_ald 0 (u_old (o_ald e_fcs 721) n_244_721) n_244_721
theorem t_244_720 : e_Sn 244 720 (e_un n_244_720) := u_aldT (s_iald hq_244 (by decide +kernel) rfl : e_Sn 244 720 (o_ald e_fcs 721)) t_244_721
noncomputable def n_244_719 : e_Y := u_bin a_iadd (u_old (o_iadd 720) n_244_720) n_244_720
theorem t_244_719 : e_Sn 244 719 (e_un n_244_719) := u_iaddT (s_iadd hq_244 (by decide +kernel) rfl : e_Sn 244 719 (o_iadd 720)) t_244_720
noncomputable def n_244_718 : e_Y := u_push (.inl 2147483650) n_244_719
theorem t_244_718 : e_Sn 244 718 (e_un n_244_718) := u_pushT (s_iconst (n := (2)) hq_244 (by decide +kernel) rfl ⟨by decide +kernel, by decide +kernel⟩ : e_Sn 244 718 (o_push (.inl 2147483650) 719)) t_244_719
noncomputable def n_244_716 : e_Y := u_ld f_okI f_l4 n_244_718
theorem t_244_716 : e_Sn 244 716 (e_un n_244_716) := u_ldIT f_l4_eq (s_iload (i := .iload 4) (len := 2) hq_244 (by decide +kernel) rfl (.inl ⟨rfl, rfl⟩) : e_Sn 244 716 (o_load e_okI 4 718)) t_244_718
noncomputable def n_244_715 : e_Y := u_ld f_okA f_l0 n_244_716
theorem t_244_715 : e_Sn 244 715 (e_un n_244_715) := u_ldAT f_l0_eq (s_aload (i := .aload_n 0) (len := 1) hq_244 (by decide +kernel) rfl (.inr ⟨0, rfl, rfl, rfl⟩) : e_Sn 244 715 (o_load e_okR 0 716)) t_244_716
noncomputable def n_244_714 : e_Y := u_ald 0 (u_old (o_ald e_fcs 715) n_244_715) n_244_715
theorem t_244_714 : e_Sn 244 714 (e_un n_244_714) := u_aldT (s_iald hq_244 (by decide +kernel) rfl : e_Sn 244 714 (o_ald e_fcs 715)) t_244_715
noncomputable def n_244_713 : e_Y := u_bin a_iadd (u_old (o_iadd 714) n_244_714) n_244_714
theorem t_244_713 : e_Sn 244 713 (e_un n_244_713) := u_iaddT (s_iadd hq_244 (by decide +kernel) rfl : e_Sn 244 713 (o_iadd 714)) t_244_714
noncomputable def n_244_712 : e_Y := u_push (.inl 2147483649) n_244_713
theorem t_244_712 : e_Sn 244 712 (e_un n_244_712) := u_pushT (s_iconst (n := (1)) hq_244 (by decide +kernel) rfl ⟨by decide +kernel, by decide +kernel⟩ : e_Sn 244 712 (o_push (.inl 2147483649) 713)) t_244_713
noncomputable def n_244_710 : e_Y := u_ld f_okI f_l4 n_244_712
theorem t_244_710 : e_Sn 244 710 (e_un n_244_710) := u_ldIT f_l4_eq (s_iload (i := .iload 4) (len := 2) hq_244 (by decide +kernel) rfl (.inl ⟨rfl, rfl⟩) : e_Sn 244 710 (o_load e_okI 4 712)) t_244_712
noncomputable def n_244_709 : e_Y := u_ld f_okA f_l0 n_244_710
theorem t_244_709 : e_Sn 244 709 (e_un n_244_709) := u_ldAT f_l0_eq (s_aload (i := .aload_n 0) (len := 1) hq_244 (by decide +kernel) rfl (.inr ⟨0, rfl, rfl, rfl⟩) : e_Sn 244 709 (o_load e_okR 0 710)) t_244_710
noncomputable def n_244_708 : e_Y := u_ld f_okA f_l1 n_244_709
theorem t_244_708 : e_Sn 244 708 (e_un n_244_708) := u_ldAT f_l1_eq (s_aload (i := .aload_n 1) (len := 1) hq_244 (by decide +kernel) rfl (.inr ⟨1, rfl, rfl, rfl⟩) : e_Sn 244 708 (o_load e_okR 1 709)) t_244_709
noncomputable def n_244_705 : e_Y := n_244_2235
theorem t_244_705 : e_Sn 244 705 (e_un n_244_705) := u_gotoT (s_goto (off := (1530)) hq_244 (by decide +kernel) rfl : e_Sn 244 705 (o_goto 2235)) t_244_2235
noncomputable def n_244_690 : e_Y := u_if y_ne0 (u_old2 (o_ifeq 693 705) 693 (u_at 693) n_244_705) (u_at 693) n_244_705
theorem t_244_690 : e_Sn 244 690 (e_un n_244_690) := u_ifeqT rfl (s_ifne (off := (15)) hq_244 (by decide +kernel) rfl rfl : e_Sn 244 690 (o_ifeq 693 705)) u_atT t_244_705
noncomputable def n_244_688 : e_Y := u_ld f_okI f_l5 n_244_690
theorem t_244_688 : e_Sn 244 688 (e_un n_244_688) := u_ldIT f_l5_eq (s_iload (i := .iload 5) (len := 2) hq_244 (by decide +kernel) rfl (.inl ⟨rfl, rfl⟩) : e_Sn 244 688 (o_load e_okI 5 690)) t_244_690
noncomputable def n_244_683 : e_Y := u_jmp y_ne (u_old2 (o_ceq 688 686) 688 n_244_688 (u_at 686)) n_244_688 (u_at 686)
theorem t_244_683 : e_Sn 244 683 (e_un n_244_683) := u_ceqT rfl (s_ceq (off := (5)) hq_244 (by decide +kernel) rfl rfl : e_Sn 244 683 (o_ceq 688 686)) t_244_688 u_atT
noncomputable def n_244_681 : e_Y := u_ld f_okI f_l5 n_244_683
theorem t_244_681 : e_Sn 244 681 (e_un n_244_681) := u_ldIT f_l5_eq (s_iload (i := .iload 5) (len := 2) hq_244 (by decide +kernel) rfl (.inl ⟨rfl, rfl⟩) : e_Sn 244 681 (o_load e_okI 5 683)) t_244_683
noncomputable def n_244_678 : e_Y := u_callV 12 199 1 20 1 n_199_0 n_244_681
theorem t_244_678 : e_Sn 244 678 (e_un n_244_678) := u_callVT rfl (s_callV (ci := 12) (C := er_12) (T := et_12) (N := 5) (index := 117) hq_244 ho_244 hy_199 hp_199 hc_199 hi_199 hd_199 (List.mem_of_getElem? (i := 1974) (by decide +kernel)) hs_199 (List.mem_of_getElem? (i := 1976) (by decide +kernel)) rfl (by decide +kernel) rfl : e_Sn 244 678 (o_callV (e_s1 12 199 1) 1 681)) t_199_0 t_244_681
noncomputable def n_244_677 : e_Y := u_ld f_okA f_l2 n_244_678
theorem t_244_677 : e_Sn 244 677 (e_un n_244_677) := u_ldAT f_l2_eq (s_aload (i := .aload_n 2) (len := 1) hq_244 (by decide +kernel) rfl (.inr ⟨2, rfl, rfl, rfl⟩) : e_Sn 244 677 (o_load e_okR 2 678)) t_244_678
noncomputable def n_244_675 : e_Y := u_st f_okI f_s6 n_244_677
theorem t_244_675 : e_Sn 244 675 (e_un n_244_675) := u_stIT (fun _ _ _ => f_s6_eq) (s_istore (i := .istore 6) (len := 2) hq_244 (by decide +kernel) rfl (.inl ⟨rfl, rfl⟩) : e_Sn 244 675 (o_store e_okI 6 677)) t_244_677
noncomputable def n_244_672 : e_Y := u_callV 12 169 3 22 3 n_169_0 n_244_675
theorem t_244_672 : e_Sn 244 672 (e_un n_244_672) := u_callVT rfl (s_callV (ci := 12) (C := er_12) (T := et_12) (N := 5) (index := 161) hq_244 ho_244 hy_169 hp_169 hc_169 hi_169 hd_169 (List.mem_of_getElem? (i := 2919) (by decide +kernel)) hs_169 (List.mem_of_getElem? (i := 2921) (by decide +kernel)) rfl (by decide +kernel) rfl : e_Sn 244 672 (o_callV (e_s1 12 169 3) 3 675)) t_169_0 t_244_675
noncomputable def n_244_671 : e_Y := u_ald 0 (u_old (o_ald e_fcs 672) n_244_672) n_244_672
theorem t_244_671 : e_Sn 244 671 (e_un n_244_671) := u_aldT (s_iald hq_244 (by decide +kernel) rfl : e_Sn 244 671 (o_ald e_fcs 672)) t_244_672
noncomputable def n_244_670 : e_Y := u_bin a_iadd (u_old (o_iadd 671) n_244_671) n_244_671
theorem t_244_670 : e_Sn 244 670 (e_un n_244_670) := u_iaddT (s_iadd hq_244 (by decide +kernel) rfl : e_Sn 244 670 (o_iadd 671)) t_244_671
noncomputable def n_244_669 : e_Y := u_push (.inl 2147483650) n_244_670
theorem t_244_669 : e_Sn 244 669 (e_un n_244_669) := u_pushT (s_iconst (n := (2)) hq_244 (by decide +kernel) rfl ⟨by decide +kernel, by decide +kernel⟩ : e_Sn 244 669 (o_push (.inl 2147483650) 670)) t_244_670
noncomputable def n_244_667 : e_Y := u_ld f_okI f_l4 n_244_669
theorem t_244_667 : e_Sn 244 667 (e_un n_244_667) := u_ldIT f_l4_eq (s_iload (i := .iload 4) (len := 2) hq_244 (by decide +kernel) rfl (.inl ⟨rfl, rfl⟩) : e_Sn 244 667 (o_load e_okI 4 669)) t_244_669
noncomputable def n_244_666 : e_Y := u_ld f_okA f_l0 n_244_667
theorem t_244_666 : e_Sn 244 666 (e_un n_244_666) := u_ldAT f_l0_eq (s_aload (i := .aload_n 0) (len := 1) hq_244 (by decide +kernel) rfl (.inr ⟨0, rfl, rfl, rfl⟩) : e_Sn 244 666 (o_load e_okR 0 667)) t_244_667
noncomputable def n_244_665 : e_Y := u_ald 0 (u_old (o_ald e_fcs 666) n_244_666) n_244_666
theorem t_244_665 : e_Sn 244 665 (e_un n_244_665) := u_aldT (s_iald hq_244 (by decide +kernel) rfl : e_Sn 244 665 (o_ald e_fcs 666)) t_244_666
noncomputable def n_244_664 : e_Y := u_bin a_iadd (u_old (o_iadd 665) n_244_665) n_244_665
theorem t_244_664 : e_Sn 244 664 (e_un n_244_664) := u_iaddT (s_iadd hq_244 (by decide +kernel) rfl : e_Sn 244 664 (o_iadd 665)) t_244_665
noncomputable def n_244_663 : e_Y := u_push (.inl 2147483649) n_244_664
theorem t_244_663 : e_Sn 244 663 (e_un n_244_663) := u_pushT (s_iconst (n := (1)) hq_244 (by decide +kernel) rfl ⟨by decide +kernel, by decide +kernel⟩ : e_Sn 244 663 (o_push (.inl 2147483649) 664)) t_244_664
noncomputable def n_244_661 : e_Y := u_ld f_okI f_l4 n_244_663
theorem t_244_661 : e_Sn 244 661 (e_un n_244_661) := u_ldIT f_l4_eq (s_iload (i := .iload 4) (len := 2) hq_244 (by decide +kernel) rfl (.inl ⟨rfl, rfl⟩) : e_Sn 244 661 (o_load e_okI 4 663)) t_244_663
noncomputable def n_244_660 : e_Y := u_ld f_okA f_l0 n_244_661
theorem t_244_660 : e_Sn 244 660 (e_un n_244_660) := u_ldAT f_l0_eq (s_aload (i := .aload_n 0) (len := 1) hq_244 (by decide +kernel) rfl (.inr ⟨0, rfl, rfl, rfl⟩) : e_Sn 244 660 (o_load e_okR 0 661)) t_244_661
noncomputable def n_244_659 : e_Y := u_ld f_okA f_l2 n_244_660
theorem t_244_659 : e_Sn 244 659 (e_un n_244_659) := u_ldAT f_l2_eq (s_aload (i := .aload_n 2) (len := 1) hq_244 (by decide +kernel) rfl (.inr ⟨2, rfl, rfl, rfl⟩) : e_Sn 244 659 (o_load e_okR 2 660)) t_244_660
noncomputable def n_244_657 : e_Y := u_st f_okI f_s5 n_244_659
theorem t_244_657 : e_Sn 244 657 (e_un n_244_657) := u_stIT (fun _ _ _ => f_s5_eq) (s_istore (i := .istore 5) (len := 2) hq_244 (by decide +kernel) rfl (.inl ⟨rfl, rfl⟩) : e_Sn 244 657 (o_store e_okI 5 659)) t_244_659
noncomputable def n_244_654 : e_Y := u_callS 116 5 24 4 n_116_0 n_244_657
theorem t_244_654 : e_Sn 244 654 (e_un n_244_654) := u_callST rfl (s_callSW (index := 159) hq_244 ho_244 hy_116 hp_116 hc_116 hi_116 hd_116 (List.mem_of_getElem? (i := 1618) (by decide +kernel)) hs_116 (by decide +kernel) rfl : e_Sn 244 654 (o_callS 116 5 4 657)) t_116_0 t_244_657
noncomputable def n_244_653 : e_Y := u_ld f_okA f_l3 n_244_654
theorem t_244_653 : e_Sn 244 653 (e_un n_244_653) := u_ldAT f_l3_eq (s_aload (i := .aload_n 3) (len := 1) hq_244 (by decide +kernel) rfl (.inr ⟨3, rfl, rfl, rfl⟩) : e_Sn 244 653 (o_load e_okR 3 654)) t_244_654
noncomputable def n_244_652 : e_Y := u_ald 0 (u_old (o_ald e_fcs 653) n_244_653) n_244_653
theorem t_244_652 : e_Sn 244 652 (e_un n_244_652) := u_aldT (s_iald hq_244 (by decide +kernel) rfl : e_Sn 244 652 (o_ald e_fcs 653)) t_244_653
noncomputable def n_244_651 : e_Y := u_bin a_iadd (u_old (o_iadd 652) n_244_652) n_244_652
theorem t_244_651 : e_Sn 244 651 (e_un n_244_651) := u_iaddT (s_iadd hq_244 (by decide +kernel) rfl : e_Sn 244 651 (o_iadd 652)) t_244_652
noncomputable def n_244_650 : e_Y := u_push (.inl 2147483650) n_244_651
theorem t_244_650 : e_Sn 244 650 (e_un n_244_650) := u_pushT (s_iconst (n := (2)) hq_244 (by decide +kernel) rfl ⟨by decide +kernel, by decide +kernel⟩ : e_Sn 244 650 (o_push (.inl 2147483650) 651)) t_244_651
noncomputable def n_244_648 : e_Y := u_ld f_okI f_l4 n_244_650
theorem t_244_648 : e_Sn 244 648 (e_un n_244_648) := u_ldIT f_l4_eq (s_iload (i := .iload 4) (len := 2) hq_244 (by decide +kernel) rfl (.inl ⟨rfl, rfl⟩) : e_Sn 244 648 (o_load e_okI 4 650)) t_244_650
noncomputable def n_244_647 : e_Y := u_ld f_okA f_l0 n_244_648
theorem t_244_647 : e_Sn 244 647 (e_un n_244_647) := u_ldAT f_l0_eq (s_aload (i := .aload_n 0) (len := 1) hq_244 (by decide +kernel) rfl (.inr ⟨0, rfl, rfl, rfl⟩) : e_Sn 244 647 (o_load e_okR 0 648)) t_244_648
noncomputable def n_244_646 : e_Y := u_ald 0 (u_old (o_ald e_fcs 647) n_244_647) n_244_647
theorem t_244_646 : e_Sn 244 646 (e_un n_244_646) := u_aldT (s_iald hq_244 (by decide +kernel) rfl : e_Sn 244 646 (o_ald e_fcs 647)) t_244_647
noncomputable def n_244_645 : e_Y := u_bin a_iadd (u_old (o_iadd 646) n_244_646) n_244_646
theorem t_244_645 : e_Sn 244 645 (e_un n_244_645) := u_iaddT (s_iadd hq_244 (by decide +kernel) rfl : e_Sn 244 645 (o_iadd 646)) t_244_646
noncomputable def n_244_644 : e_Y := u_push (.inl 2147483649) n_244_645
theorem t_244_644 : e_Sn 244 644 (e_un n_244_644) := u_pushT (s_iconst (n := (1)) hq_244 (by decide +kernel) rfl ⟨by decide +kernel, by decide +kernel⟩ : e_Sn 244 644 (o_push (.inl 2147483649) 645)) t_244_645
noncomputable def n_244_642 : e_Y := u_ld f_okI f_l4 n_244_644
theorem t_244_642 : e_Sn 244 642 (e_un n_244_642) := u_ldIT f_l4_eq (s_iload (i := .iload 4) (len := 2) hq_244 (by decide +kernel) rfl (.inl ⟨rfl, rfl⟩) : e_Sn 244 642 (o_load e_okI 4 644)) t_244_644
noncomputable def n_244_641 : e_Y := u_ld f_okA f_l0 n_244_642
theorem t_244_641 : e_Sn 244 641 (e_un n_244_641) := u_ldAT f_l0_eq (s_aload (i := .aload_n 0) (len := 1) hq_244 (by decide +kernel) rfl (.inr ⟨0, rfl, rfl, rfl⟩) : e_Sn 244 641 (o_load e_okR 0 642)) t_244_642
noncomputable def n_244_640 : e_Y := u_ld f_okA f_l1 n_244_641
theorem t_244_640 : e_Sn 244 640 (e_un n_244_640) := u_ldAT f_l1_eq (s_aload (i := .aload_n 1) (len := 1) hq_244 (by decide +kernel) rfl (.inr ⟨1, rfl, rfl, rfl⟩) : e_Sn 244 640 (o_load e_okR 1 641)) t_244_641
noncomputable def n_244_635 : e_Y := u_jmp y_ne (u_old2 (o_ceq 2235 638) 2235 n_244_2235 (u_at 638)) n_244_2235 (u_at 638)
theorem t_244_635 : e_Sn 244 635 (e_un n_244_635) := u_ceqT rfl (s_ceq (off := (1600)) hq_244 (by decide +kernel) rfl rfl : e_Sn 244 635 (o_ceq 2235 638)) t_244_2235 u_atT
noncomputable def n_244_632 : e_Y := u_callV 12 170 1 20 1 n_170_0 n_244_635
theorem t_244_632 : e_Sn 244 632 (e_un n_244_632) := u_callVT rfl (s_callV (ci := 12) (C := er_12) (T := et_12) (N := 5) (index := 158) hq_244 ho_244 hy_170 hp_170 hc_170 hi_170 hd_170 (List.mem_of_getElem? (i := 2915) (by decide +kernel)) hs_170 (List.mem_of_getElem? (i := 2917) (by decide +kernel)) rfl (by decide +kernel) rfl : e_Sn 244 632 (o_callV (e_s1 12 170 1) 1 635)) t_170_0 t_244_635
noncomputable def n_244_631 : e_Y := u_ld f_okA f_l2 n_244_632
theorem t_244_631 : e_Sn 244 631 (e_un n_244_631) := u_ldAT f_l2_eq (s_aload (i := .aload_n 2) (len := 1) hq_244 (by decide +kernel) rfl (.inr ⟨2, rfl, rfl, rfl⟩) : e_Sn 244 631 (o_load e_okR 2 632)) t_244_632
noncomputable def n_244_628 : e_Y := u_callV 0 32 1 20 1 n_32_0 n_244_631
theorem t_244_628 : e_Sn 244 628 (e_un n_244_628) := u_callVT rfl (s_callV (ci := 0) (C := er_0) (T := et_0) (N := 17) (index := 155) hq_244 ho_244 hy_32 hp_32 hc_32 hi_32 hd_32 (List.mem_of_getElem? (i := 1250) (by decide +kernel)) hs_32 (List.mem_of_getElem? (i := 1252) (by decide +kernel)) rfl (by decide +kernel) rfl : e_Sn 244 628 (o_callV (e_s1 0 32 1) 1 631)) t_32_0 t_244_631
noncomputable def n_244_627 : e_Y := u_ld f_okA f_l1 n_244_628
theorem t_244_627 : e_Sn 244 627 (e_un n_244_627) := u_ldAT f_l1_eq (s_aload (i := .aload_n 1) (len := 1) hq_244 (by decide +kernel) rfl (.inr ⟨1, rfl, rfl, rfl⟩) : e_Sn 244 627 (o_load e_okR 1 628)) t_244_628
noncomputable def n_244_624 : e_Y := n_244_2235
theorem t_244_624 : e_Sn 244 624 (e_un n_244_624) := u_gotoT (s_goto (off := (1611)) hq_244 (by decide +kernel) rfl : e_Sn 244 624 (o_goto 2235)) t_244_2235
noncomputable def n_244_619 : e_Y := u_if y_ne0 (u_old2 (o_ifeq 624 622) 624 n_244_624 (u_at 622)) n_244_624 (u_at 622)
theorem t_244_619 : e_Sn 244 619 (e_un n_244_619) := u_ifeqT rfl (s_ifeq (off := (5)) hq_244 (by decide +kernel) rfl rfl : e_Sn 244 619 (o_ifeq 624 622)) t_244_624 u_atT
noncomputable def n_244_618 : e_Y := u_old (o_lcmp 619) n_244_619
theorem t_244_618 : e_Sn 244 618 (e_un n_244_618) := u_oldT (s_lcmp hq_244 (by decide +kernel) rfl : e_Sn 244 618 (o_lcmp 619)) t_244_619 e_cg_lcmp
noncomputable def n_244_617 : e_Y := u_old (o_i2l 618) n_244_618
theorem t_244_617 : e_Sn 244 617 (e_un n_244_617) := u_oldT (s_i2l hq_244 (by decide +kernel) rfl : e_Sn 244 617 (o_i2l 618)) t_244_618 e_congr_i2l
noncomputable def n_244_615 : e_Y := u_ld f_okI f_l6 n_244_617
theorem t_244_615 : e_Sn 244 615 (e_un n_244_615) := u_ldIT f_l6_eq (s_iload (i := .iload 6) (len := 2) hq_244 (by decide +kernel) rfl (.inl ⟨rfl, rfl⟩) : e_Sn 244 615 (o_load e_okI 6 617)) t_244_617
noncomputable def n_244_614 : e_Y := u_ald 2 (u_old (o_aldO 2 615) n_244_615) n_244_615
theorem t_244_614 : e_Sn 244 614 (e_un n_244_614) := u_aldOT (s_lald hq_244 (by decide +kernel) rfl : e_Sn 244 614 (o_aldO 2 615)) t_244_615
noncomputable def n_244_613 : e_Y := u_push (.inl 2147483648) n_244_614
theorem t_244_613 : e_Sn 244 613 (e_un n_244_613) := u_pushT (s_iconst (n := (0)) hq_244 (by decide +kernel) rfl ⟨by decide +kernel, by decide +kernel⟩ : e_Sn 244 613 (o_push (.inl 2147483648) 614)) t_244_614
noncomputable def n_244_612 : e_Y := u_ld f_okA f_l3 n_244_613
theorem t_244_612 : e_Sn 244 612 (e_un n_244_612) := u_ldAT f_l3_eq (s_aload (i := .aload_n 3) (len := 1) hq_244 (by decide +kernel) rfl (.inr ⟨3, rfl, rfl, rfl⟩) : e_Sn 244 612 (o_load e_okR 3 613)) t_244_613
noncomputable def n_244_609 : e_Y := u_if y_ne0 (u_old2 (o_ifeq 612 624) 612 n_244_612 n_244_624) n_244_612 n_244_624
theorem t_244_609 : e_Sn 244 609 (e_un n_244_609) := u_ifeqT rfl (s_ifne (off := (15)) hq_244 (by decide +kernel) rfl rfl : e_Sn 244 609 (o_ifeq 612 624)) t_244_612 t_244_624
noncomputable def n_244_607 : e_Y := u_ld f_okI f_l5 n_244_609
theorem t_244_607 : e_Sn 244 607 (e_un n_244_607) := u_ldIT f_l5_eq (s_iload (i := .iload 5) (len := 2) hq_244 (by decide +kernel) rfl (.inl ⟨rfl, rfl⟩) : e_Sn 244 607 (o_load e_okI 5 609)) t_244_609
noncomputable def n_244_602 : e_Y := u_jmp y_ne (u_old2 (o_ceq 607 605) 607 n_244_607 (u_at 605)) n_244_607 (u_at 605)
theorem t_244_602 : e_Sn 244 602 (e_un n_244_602) := u_ceqT rfl (s_ceq (off := (5)) hq_244 (by decide +kernel) rfl rfl : e_Sn 244 602 (o_ceq 607 605)) t_244_607 u_atT
noncomputable def n_244_600 : e_Y := u_ld f_okI f_l5 n_244_602
theorem t_244_600 : e_Sn 244 600 (e_un n_244_600) := u_ldIT f_l5_eq (s_iload (i := .iload 5) (len := 2) hq_244 (by decide +kernel) rfl (.inl ⟨rfl, rfl⟩) : e_Sn 244 600 (o_load e_okI 5 602)) t_244_602
noncomputable def n_244_597 : e_Y := u_callV 12 199 1 20 1 n_199_0 n_244_600
theorem t_244_597 : e_Sn 244 597 (e_un n_244_597) := u_callVT rfl (s_callV (ci := 12) (C := er_12) (T := et_12) (N := 5) (index := 117) hq_244 ho_244 hy_199 hp_199 hc_199 hi_199 hd_199 (List.mem_of_getElem? (i := 1974) (by decide +kernel)) hs_199 (List.mem_of_getElem? (i := 1976) (by decide +kernel)) rfl (by decide +kernel) rfl : e_Sn 244 597 (o_callV (e_s1 12 199 1) 1 600)) t_199_0 t_244_600
noncomputable def n_244_596 : e_Y := u_ld f_okA f_l2 n_244_597
theorem t_244_596 : e_Sn 244 596 (e_un n_244_596) := u_ldAT f_l2_eq (s_aload (i := .aload_n 2) (len := 1) hq_244 (by decide +kernel) rfl (.inr ⟨2, rfl, rfl, rfl⟩) : e_Sn 244 596 (o_load e_okR 2 597)) t_244_597
noncomputable def n_244_594 : e_Y := u_st f_okI f_s6 n_244_596
theorem t_244_594 : e_Sn 244 594 (e_un n_244_594) := u_stIT (fun _ _ _ => f_s6_eq) (s_istore (i := .istore 6) (len := 2) hq_244 (by decide +kernel) rfl (.inl ⟨rfl, rfl⟩) : e_Sn 244 594 (o_store e_okI 6 596)) t_244_596
noncomputable def n_244_591 : e_Y := u_callV 12 151 2 21 2 n_151_0 n_244_594
theorem t_244_591 : e_Sn 244 591 (e_un n_244_591) := u_callVT rfl (s_callV (ci := 12) (C := er_12) (T := et_12) (N := 5) (index := 154) hq_244 ho_244 hy_151 hp_151 hc_151 hi_151 hd_151 (List.mem_of_getElem? (i := 2911) (by decide +kernel)) hs_151 (List.mem_of_getElem? (i := 2913) (by decide +kernel)) rfl (by decide +kernel) rfl : e_Sn 244 591 (o_callV (e_s1 12 151 2) 2 594)) t_151_0 t_244_594
noncomputable def n_244_590 : e_Y := u_ald 0 (u_old (o_ald e_fcs 591) n_244_591) n_244_591
theorem t_244_590 : e_Sn 244 590 (e_un n_244_590) := u_aldT (s_iald hq_244 (by decide +kernel) rfl : e_Sn 244 590 (o_ald e_fcs 591)) t_244_591
noncomputable def n_244_589 : e_Y := u_bin a_iadd (u_old (o_iadd 590) n_244_590) n_244_590
theorem t_244_589 : e_Sn 244 589 (e_un n_244_589) := u_iaddT (s_iadd hq_244 (by decide +kernel) rfl : e_Sn 244 589 (o_iadd 590)) t_244_590
noncomputable def n_244_588 : e_Y := u_push (.inl 2147483649) n_244_589
theorem t_244_588 : e_Sn 244 588 (e_un n_244_588) := u_pushT (s_iconst (n := (1)) hq_244 (by decide +kernel) rfl ⟨by decide +kernel, by decide +kernel⟩ : e_Sn 244 588 (o_push (.inl 2147483649) 589)) t_244_589
noncomputable def n_244_586 : e_Y := u_ld f_okI f_l4 n_244_588
theorem t_244_586 : e_Sn 244 586 (e_un n_244_586) := u_ldIT f_l4_eq (s_iload (i := .iload 4) (len := 2) hq_244 (by decide +kernel) rfl (.inl ⟨rfl, rfl⟩) : e_Sn 244 586 (o_load e_okI 4 588)) t_244_588
noncomputable def n_244_585 : e_Y := u_ld f_okA f_l0 n_244_586
theorem t_244_585 : e_Sn 244 585 (e_un n_244_585) := u_ldAT f_l0_eq (s_aload (i := .aload_n 0) (len := 1) hq_244 (by decide +kernel) rfl (.inr ⟨0, rfl, rfl, rfl⟩) : e_Sn 244 585 (o_load e_okR 0 586)) t_244_586
noncomputable def n_244_584 : e_Y := u_ld f_okA f_l2 n_244_585
theorem t_244_584 : e_Sn 244 584 (e_un n_244_584) := u_ldAT f_l2_eq (s_aload (i := .aload_n 2) (len := 1) hq_244 (by decide +kernel) rfl (.inr ⟨2, rfl, rfl, rfl⟩) : e_Sn 244 584 (o_load e_okR 2 585)) t_244_585
noncomputable def n_244_582 : e_Y := u_st f_okI f_s5 n_244_584
theorem t_244_582 : e_Sn 244 582 (e_un n_244_582) := u_stIT (fun _ _ _ => f_s5_eq) (s_istore (i := .istore 5) (len := 2) hq_244 (by decide +kernel) rfl (.inl ⟨rfl, rfl⟩) : e_Sn 244 582 (o_store e_okI 5 584)) t_244_584
noncomputable def n_244_579 : e_Y := u_callS 111 4 23 3 n_111_0 n_244_582
theorem t_244_579 : e_Sn 244 579 (e_un n_244_579) := u_callST rfl (s_callSW (index := 151) hq_244 ho_244 hy_111 hp_111 hc_111 hi_111 hd_111 (List.mem_of_getElem? (i := 1614) (by decide +kernel)) hs_111 (by decide +kernel) rfl : e_Sn 244 579 (o_callS 111 4 3 582)) t_111_0 t_244_582
noncomputable def n_244_578 : e_Y := u_ld f_okA f_l3 n_244_579
theorem t_244_578 : e_Sn 244 578 (e_un n_244_578) := u_ldAT f_l3_eq (s_aload (i := .aload_n 3) (len := 1) hq_244 (by decide +kernel) rfl (.inr ⟨3, rfl, rfl, rfl⟩) : e_Sn 244 578 (o_load e_okR 3 579)) t_244_579
noncomputable def n_244_577 : e_Y := u_ald 0 (u_old (o_ald e_fcs 578) n_244_578) n_244_578
theorem t_244_577 : e_Sn 244 577 (e_un n_244_577) := u_aldT (s_iald hq_244 (by decide +kernel) rfl : e_Sn 244 577 (o_ald e_fcs 578)) t_244_578
noncomputable def n_244_576 : e_Y := u_bin a_iadd (u_old (o_iadd 577) n_244_577) n_244_577
theorem t_244_576 : e_Sn 244 576 (e_un n_244_576) := u_iaddT (s_iadd hq_244 (by decide +kernel) rfl : e_Sn 244 576 (o_iadd 577)) t_244_577
noncomputable def n_244_575 : e_Y := u_push (.inl 2147483649) n_244_576
theorem t_244_575 : e_Sn 244 575 (e_un n_244_575) := u_pushT (s_iconst (n := (1)) hq_244 (by decide +kernel) rfl ⟨by decide +kernel, by decide +kernel⟩ : e_Sn 244 575 (o_push (.inl 2147483649) 576)) t_244_576
noncomputable def n_244_573 : e_Y := u_ld f_okI f_l4 n_244_575
theorem t_244_573 : e_Sn 244 573 (e_un n_244_573) := u_ldIT f_l4_eq (s_iload (i := .iload 4) (len := 2) hq_244 (by decide +kernel) rfl (.inl ⟨rfl, rfl⟩) : e_Sn 244 573 (o_load e_okI 4 575)) t_244_575
noncomputable def n_244_572 : e_Y := u_ld f_okA f_l0 n_244_573
theorem t_244_572 : e_Sn 244 572 (e_un n_244_572) := u_ldAT f_l0_eq (s_aload (i := .aload_n 0) (len := 1) hq_244 (by decide +kernel) rfl (.inr ⟨0, rfl, rfl, rfl⟩) : e_Sn 244 572 (o_load e_okR 0 573)) t_244_573
noncomputable def n_244_571 : e_Y := u_ld f_okA f_l1 n_244_572
theorem t_244_571 : e_Sn 244 571 (e_un n_244_571) := u_ldAT f_l1_eq (s_aload (i := .aload_n 1) (len := 1) hq_244 (by decide +kernel) rfl (.inr ⟨1, rfl, rfl, rfl⟩) : e_Sn 244 571 (o_load e_okR 1 572)) t_244_572
noncomputable def n_244_568 : e_Y := n_244_2235
theorem t_244_568 : e_Sn 244 568 (e_un n_244_568) := u_gotoT (s_goto (off := (1667)) hq_244 (by decide +kernel) rfl : e_Sn 244 568 (o_goto 2235)) t_244_2235
noncomputable def n_244_553 : e_Y := u_if y_ne0 (u_old2 (o_ifeq 556 568) 556 (u_at 556) n_244_568) (u_at 556) n_244_568
theorem t_244_553 : e_Sn 244 553 (e_un n_244_553) := u_ifeqT rfl (s_ifne (off := (15)) hq_244 (by decide +kernel) rfl rfl : e_Sn 244 553 (o_ifeq 556 568)) u_atT t_244_568
noncomputable def n_244_551 : e_Y := u_ld f_okI f_l5 n_244_553
theorem t_244_551 : e_Sn 244 551 (e_un n_244_551) := u_ldIT f_l5_eq (s_iload (i := .iload 5) (len := 2) hq_244 (by decide +kernel) rfl (.inl ⟨rfl, rfl⟩) : e_Sn 244 551 (o_load e_okI 5 553)) t_244_553
noncomputable def n_244_546 : e_Y := u_jmp y_ne (u_old2 (o_ceq 551 549) 551 n_244_551 (u_at 549)) n_244_551 (u_at 549)
theorem t_244_546 : e_Sn 244 546 (e_un n_244_546) := u_ceqT rfl (s_ceq (off := (5)) hq_244 (by decide +kernel) rfl rfl : e_Sn 244 546 (o_ceq 551 549)) t_244_551 u_atT
noncomputable def n_244_544 : e_Y := u_ld f_okI f_l5 n_244_546
theorem t_244_544 : e_Sn 244 544 (e_un n_244_544) := u_ldIT f_l5_eq (s_iload (i := .iload 5) (len := 2) hq_244 (by decide +kernel) rfl (.inl ⟨rfl, rfl⟩) : e_Sn 244 544 (o_load e_okI 5 546)) t_244_546
noncomputable def n_244_541 : e_Y := u_callV 12 199 1 20 1 n_199_0 n_244_544
theorem t_244_541 : e_Sn 244 541 (e_un n_244_541) := u_callVT rfl (s_callV (ci := 12) (C := er_12) (T := et_12) (N := 5) (index := 117) hq_244 ho_244 hy_199 hp_199 hc_199 hi_199 hd_199 (List.mem_of_getElem? (i := 1974) (by decide +kernel)) hs_199 (List.mem_of_getElem? (i := 1976) (by decide +kernel)) rfl (by decide +kernel) rfl : e_Sn 244 541 (o_callV (e_s1 12 199 1) 1 544)) t_199_0 t_244_544
noncomputable def n_244_540 : e_Y := u_ld f_okA f_l2 n_244_541
theorem t_244_540 : e_Sn 244 540 (e_un n_244_540) := u_ldAT f_l2_eq (s_aload (i := .aload_n 2) (len := 1) hq_244 (by decide +kernel) rfl (.inr ⟨2, rfl, rfl, rfl⟩) : e_Sn 244 540 (o_load e_okR 2 541)) t_244_541
noncomputable def n_244_538 : e_Y := u_st f_okI f_s6 n_244_540
theorem t_244_538 : e_Sn 244 538 (e_un n_244_538) := u_stIT (fun _ _ _ => f_s6_eq) (s_istore (i := .istore 6) (len := 2) hq_244 (by decide +kernel) rfl (.inl ⟨rfl, rfl⟩) : e_Sn 244 538 (o_store e_okI 6 540)) t_244_540
noncomputable def n_244_535 : e_Y := u_callV 12 201 3 22 3 n_201_0 n_244_538
theorem t_244_535 : e_Sn 244 535 (e_un n_244_535) := u_callVT rfl (s_callV (ci := 12) (C := er_12) (T := et_12) (N := 5) (index := 150) hq_244 ho_244 hy_201 hp_201 hc_201 hi_201 hd_201 (List.mem_of_getElem? (i := 2907) (by decide +kernel)) hs_201 (List.mem_of_getElem? (i := 2909) (by decide +kernel)) rfl (by decide +kernel) rfl : e_Sn 244 535 (o_callV (e_s1 12 201 3) 3 538)) t_201_0 t_244_538
noncomputable def n_244_534 : e_Y := u_ald 0 (u_old (o_ald e_fcs 535) n_244_535) n_244_535
theorem t_244_534 : e_Sn 244 534 (e_un n_244_534) := u_aldT (s_iald hq_244 (by decide +kernel) rfl : e_Sn 244 534 (o_ald e_fcs 535)) t_244_535
noncomputable def n_244_533 : e_Y := u_bin a_iadd (u_old (o_iadd 534) n_244_534) n_244_534
theorem t_244_533 : e_Sn 244 533 (e_un n_244_533) := u_iaddT (s_iadd hq_244 (by decide +kernel) rfl : e_Sn 244 533 (o_iadd 534)) t_244_534
noncomputable def n_244_532 : e_Y := u_push (.inl 2147483650) n_244_533
theorem t_244_532 : e_Sn 244 532 (e_un n_244_532) := u_pushT (s_iconst (n := (2)) hq_244 (by decide +kernel) rfl ⟨by decide +kernel, by decide +kernel⟩ : e_Sn 244 532 (o_push (.inl 2147483650) 533)) t_244_533
noncomputable def n_244_530 : e_Y := u_ld f_okI f_l4 n_244_532
theorem t_244_530 : e_Sn 244 530 (e_un n_244_530) := u_ldIT f_l4_eq (s_iload (i := .iload 4) (len := 2) hq_244 (by decide +kernel) rfl (.inl ⟨rfl, rfl⟩) : e_Sn 244 530 (o_load e_okI 4 532)) t_244_532
noncomputable def n_244_529 : e_Y := u_ld f_okA f_l0 n_244_530
theorem t_244_529 : e_Sn 244 529 (e_un n_244_529) := u_ldAT f_l0_eq (s_aload (i := .aload_n 0) (len := 1) hq_244 (by decide +kernel) rfl (.inr ⟨0, rfl, rfl, rfl⟩) : e_Sn 244 529 (o_load e_okR 0 530)) t_244_530
noncomputable def n_244_528 : e_Y := u_ald 0 (u_old (o_ald e_fcs 529) n_244_529) n_244_529
theorem t_244_528 : e_Sn 244 528 (e_un n_244_528) := u_aldT (s_iald hq_244 (by decide +kernel) rfl : e_Sn 244 528 (o_ald e_fcs 529)) t_244_529
noncomputable def n_244_527 : e_Y := u_bin a_iadd (u_old (o_iadd 528) n_244_528) n_244_528
theorem t_244_527 : e_Sn 244 527 (e_un n_244_527) := u_iaddT (s_iadd hq_244 (by decide +kernel) rfl : e_Sn 244 527 (o_iadd 528)) t_244_528
noncomputable def n_244_526 : e_Y := u_push (.inl 2147483649) n_244_527
theorem t_244_526 : e_Sn 244 526 (e_un n_244_526) := u_pushT (s_iconst (n := (1)) hq_244 (by decide +kernel) rfl ⟨by decide +kernel, by decide +kernel⟩ : e_Sn 244 526 (o_push (.inl 2147483649) 527)) t_244_527
noncomputable def n_244_524 : e_Y := u_ld f_okI f_l4 n_244_526
theorem t_244_524 : e_Sn 244 524 (e_un n_244_524) := u_ldIT f_l4_eq (s_iload (i := .iload 4) (len := 2) hq_244 (by decide +kernel) rfl (.inl ⟨rfl, rfl⟩) : e_Sn 244 524 (o_load e_okI 4 526)) t_244_526
noncomputable def n_244_523 : e_Y := u_ld f_okA f_l0 n_244_524
theorem t_244_523 : e_Sn 244 523 (e_un n_244_523) := u_ldAT f_l0_eq (s_aload (i := .aload_n 0) (len := 1) hq_244 (by decide +kernel) rfl (.inr ⟨0, rfl, rfl, rfl⟩) : e_Sn 244 523 (o_load e_okR 0 524)) t_244_524
noncomputable def n_244_522 : e_Y := u_ld f_okA f_l2 n_244_523
theorem t_244_522 : e_Sn 244 522 (e_un n_244_522) := u_ldAT f_l2_eq (s_aload (i := .aload_n 2) (len := 1) hq_244 (by decide +kernel) rfl (.inr ⟨2, rfl, rfl, rfl⟩) : e_Sn 244 522 (o_load e_okR 2 523)) t_244_523
noncomputable def n_244_520 : e_Y := u_st f_okI f_s5 n_244_522
theorem t_244_520 : e_Sn 244 520 (e_un n_244_520) := u_stIT (fun _ _ _ => f_s5_eq) (s_istore (i := .istore 5) (len := 2) hq_244 (by decide +kernel) rfl (.inl ⟨rfl, rfl⟩) : e_Sn 244 520 (o_store e_okI 5 522)) t_244_522
noncomputable def n_244_517 : e_Y := u_callS 131 5 24 4 n_131_0 n_244_520
theorem t_244_517 : e_Sn 244 517 (e_un n_244_517) := u_callST rfl (s_callSW (index := 148) hq_244 ho_244 hy_131 hp_131 hc_131 hi_131 hd_131 (List.mem_of_getElem? (i := 1609) (by decide +kernel)) hs_131 (by decide +kernel) rfl : e_Sn 244 517 (o_callS 131 5 4 520)) t_131_0 t_244_520
noncomputable def n_244_516 : e_Y := u_ld f_okA f_l3 n_244_517
theorem t_244_516 : e_Sn 244 516 (e_un n_244_516) := u_ldAT f_l3_eq (s_aload (i := .aload_n 3) (len := 1) hq_244 (by decide +kernel) rfl (.inr ⟨3, rfl, rfl, rfl⟩) : e_Sn 244 516 (o_load e_okR 3 517)) t_244_517
noncomputable def n_244_515 : e_Y := u_ald 0 (u_old (o_ald e_fcs 516) n_244_516) n_244_516
theorem t_244_515 : e_Sn 244 515 (e_un n_244_515) := u_aldT (s_iald hq_244 (by decide +kernel) rfl : e_Sn 244 515 (o_ald e_fcs 516)) t_244_516
noncomputable def n_244_514 : e_Y := u_bin a_iadd (u_old (o_iadd 515) n_244_515) n_244_515
theorem t_244_514 : e_Sn 244 514 (e_un n_244_514) := u_iaddT (s_iadd hq_244 (by decide +kernel) rfl : e_Sn 244 514 (o_iadd 515)) t_244_515
noncomputable def n_244_513 : e_Y := u_push (.inl 2147483650) n_244_514
theorem t_244_513 : e_Sn 244 513 (e_un n_244_513) := u_pushT (s_iconst (n := (2)) hq_244 (by decide +kernel) rfl ⟨by decide +kernel, by decide +kernel⟩ : e_Sn 244 513 (o_push (.inl 2147483650) 514)) t_244_514
noncomputable def n_244_511 : e_Y := u_ld f_okI f_l4 n_244_513
theorem t_244_511 : e_Sn 244 511 (e_un n_244_511) := u_ldIT f_l4_eq (s_iload (i := .iload 4) (len := 2) hq_244 (by decide +kernel) rfl (.inl ⟨rfl, rfl⟩) : e_Sn 244 511 (o_load e_okI 4 513)) t_244_513
noncomputable def n_244_510 : e_Y := u_ld f_okA f_l0 n_244_511
theorem t_244_510 : e_Sn 244 510 (e_un n_244_510) := u_ldAT f_l0_eq (s_aload (i := .aload_n 0) (len := 1) hq_244 (by decide +kernel) rfl (.inr ⟨0, rfl, rfl, rfl⟩) : e_Sn 244 510 (o_load e_okR 0 511)) t_244_511
noncomputable def n_244_509 : e_Y := u_ald 0 (u_old (o_ald e_fcs 510) n_244_510) n_244_510
theorem t_244_509 : e_Sn 244 509 (e_un n_244_509) := u_aldT (s_iald hq_244 (by decide +kernel) rfl : e_Sn 244 509 (o_ald e_fcs 510)) t_244_510
noncomputable def n_244_508 : e_Y := u_bin a_iadd (u_old (o_iadd 509) n_244_509) n_244_509
theorem t_244_508 : e_Sn 244 508 (e_un n_244_508) := u_iaddT (s_iadd hq_244 (by decide +kernel) rfl : e_Sn 244 508 (o_iadd 509)) t_244_509
noncomputable def n_244_507 : e_Y := u_push (.inl 2147483649) n_244_508
theorem t_244_507 : e_Sn 244 507 (e_un n_244_507) := u_pushT (s_iconst (n := (1)) hq_244 (by decide +kernel) rfl ⟨by decide +kernel, by decide +kernel⟩ : e_Sn 244 507 (o_push (.inl 2147483649) 508)) t_244_508
noncomputable def n_244_505 : e_Y := u_ld f_okI f_l4 n_244_507
theorem t_244_505 : e_Sn 244 505 (e_un n_244_505) := u_ldIT f_l4_eq (s_iload (i := .iload 4) (len := 2) hq_244 (by decide +kernel) rfl (.inl ⟨rfl, rfl⟩) : e_Sn 244 505 (o_load e_okI 4 507)) t_244_507
noncomputable def n_244_504 : e_Y := u_ld f_okA f_l0 n_244_505
theorem t_244_504 : e_Sn 244 504 (e_un n_244_504) := u_ldAT f_l0_eq (s_aload (i := .aload_n 0) (len := 1) hq_244 (by decide +kernel) rfl (.inr ⟨0, rfl, rfl, rfl⟩) : e_Sn 244 504 (o_load e_okR 0 505)) t_244_505
noncomputable def n_244_503 : e_Y := u_ld f_okA f_l1 n_244_504
theorem t_244_503 : e_Sn 244 503 (e_un n_244_503) := u_ldAT f_l1_eq (s_aload (i := .aload_n 1) (len := 1) hq_244 (by decide +kernel) rfl (.inr ⟨1, rfl, rfl, rfl⟩) : e_Sn 244 503 (o_load e_okR 1 504)) t_244_504
noncomputable def n_244_498 : e_Y := u_jmp y_ne (u_old2 (o_ceq 2235 501) 2235 n_244_2235 (u_at 501)) n_244_2235 (u_at 501)
theorem t_244_498 : e_Sn 244 498 (e_un n_244_498) := u_ceqT rfl (s_ceq (off := (1737)) hq_244 (by decide +kernel) rfl rfl : e_Sn 244 498 (o_ceq 2235 501)) t_244_2235 u_atT
noncomputable def n_244_495 : e_Y := u_callV 12 202 1 20 1 n_202_0 n_244_498
theorem t_244_495 : e_Sn 244 495 (e_un n_244_495) := u_callVT rfl (s_callV (ci := 12) (C := er_12) (T := et_12) (N := 5) (index := 147) hq_244 ho_244 hy_202 hp_202 hc_202 hi_202 hd_202 (List.mem_of_getElem? (i := 2903) (by decide +kernel)) hs_202 (List.mem_of_getElem? (i := 2905) (by decide +kernel)) rfl (by decide +kernel) rfl : e_Sn 244 495 (o_callV (e_s1 12 202 1) 1 498)) t_202_0 t_244_498
noncomputable def n_244_494 : e_Y := u_ld f_okA f_l2 n_244_495
theorem t_244_494 : e_Sn 244 494 (e_un n_244_494) := u_ldAT f_l2_eq (s_aload (i := .aload_n 2) (len := 1) hq_244 (by decide +kernel) rfl (.inr ⟨2, rfl, rfl, rfl⟩) : e_Sn 244 494 (o_load e_okR 2 495)) t_244_495
noncomputable def n_244_491 : e_Y := u_callV 0 56 1 20 1 n_56_0 n_244_494
theorem t_244_491 : e_Sn 244 491 (e_un n_244_491) := u_callVT rfl (s_callV (ci := 0) (C := er_0) (T := et_0) (N := 17) (index := 144) hq_244 ho_244 hy_56 hp_56 hc_56 hi_56 hd_56 (List.mem_of_getElem? (i := 1246) (by decide +kernel)) hs_56 (List.mem_of_getElem? (i := 1248) (by decide +kernel)) rfl (by decide +kernel) rfl : e_Sn 244 491 (o_callV (e_s1 0 56 1) 1 494)) t_56_0 t_244_494
noncomputable def n_244_490 : e_Y := u_ld f_okA f_l1 n_244_491
theorem t_244_490 : e_Sn 244 490 (e_un n_244_490) := u_ldAT f_l1_eq (s_aload (i := .aload_n 1) (len := 1) hq_244 (by decide +kernel) rfl (.inr ⟨1, rfl, rfl, rfl⟩) : e_Sn 244 490 (o_load e_okR 1 491)) t_244_491
noncomputable def n_244_485 : e_Y := u_jmp y_ne (u_old2 (o_ceq 2235 488) 2235 n_244_2235 (u_at 488)) n_244_2235 (u_at 488)
theorem t_244_485 : e_Sn 244 485 (e_un n_244_485) := u_ceqT rfl (s_ceq (off := (1750)) hq_244 (by decide +kernel) rfl rfl : e_Sn 244 485 (o_ceq 2235 488)) t_244_2235 u_atT
noncomputable def n_244_482 : e_Y := u_callV 12 171 1 20 1 n_171_0 n_244_485
theorem t_244_482 : e_Sn 244 482 (e_un n_244_482) := u_callVT rfl (s_callV (ci := 12) (C := er_12) (T := et_12) (N := 5) (index := 143) hq_244 ho_244 hy_171 hp_171 hc_171 hi_171 hd_171 (List.mem_of_getElem? (i := 2899) (by decide +kernel)) hs_171 (List.mem_of_getElem? (i := 2901) (by decide +kernel)) rfl (by decide +kernel) rfl : e_Sn 244 482 (o_callV (e_s1 12 171 1) 1 485)) t_171_0 t_244_485
noncomputable def n_244_481 : e_Y := u_ld f_okA f_l2 n_244_482
theorem t_244_481 : e_Sn 244 481 (e_un n_244_481) := u_ldAT f_l2_eq (s_aload (i := .aload_n 2) (len := 1) hq_244 (by decide +kernel) rfl (.inr ⟨2, rfl, rfl, rfl⟩) : e_Sn 244 481 (o_load e_okR 2 482)) t_244_482
noncomputable def n_244_478 : e_Y := u_callV 0 33 1 20 1 n_33_0 n_244_481
theorem t_244_478 : e_Sn 244 478 (e_un n_244_478) := u_callVT rfl (s_callV (ci := 0) (C := er_0) (T := et_0) (N := 17) (index := 140) hq_244 ho_244 hy_33 hp_33 hc_33 hi_33 hd_33 (List.mem_of_getElem? (i := 1242) (by decide +kernel)) hs_33 (List.mem_of_getElem? (i := 1244) (by decide +kernel)) rfl (by decide +kernel) rfl : e_Sn 244 478 (o_callV (e_s1 0 33 1) 1 481)) t_33_0 t_244_481
noncomputable def n_244_477 : e_Y := u_ld f_okA f_l1 n_244_478
theorem t_244_477 : e_Sn 244 477 (e_un n_244_477) := u_ldAT f_l1_eq (s_aload (i := .aload_n 1) (len := 1) hq_244 (by decide +kernel) rfl (.inr ⟨1, rfl, rfl, rfl⟩) : e_Sn 244 477 (o_load e_okR 1 478)) t_244_478
noncomputable def n_244_472 : e_Y := u_jmp y_ne (u_old2 (o_ceq 2235 475) 2235 n_244_2235 (u_at 475)) n_244_2235 (u_at 475)
theorem t_244_472 : e_Sn 244 472 (e_un n_244_472) := u_ceqT rfl (s_ceq (off := (1763)) hq_244 (by decide +kernel) rfl rfl : e_Sn 244 472 (o_ceq 2235 475)) t_244_2235 u_atT
noncomputable def n_244_469 : e_Y := u_callV 12 156 2 21 1 n_156_0 n_244_472
theorem t_244_469 : e_Sn 244 469 (e_un n_244_469) := u_callVT rfl (s_callV (ci := 12) (C := er_12) (T := et_12) (N := 5) (index := 139) hq_244 ho_244 hy_156 hp_156 hc_156 hi_156 hd_156 (List.mem_of_getElem? (i := 2895) (by decide +kernel)) hs_156 (List.mem_of_getElem? (i := 2897) (by decide +kernel)) rfl (by decide +kernel) rfl : e_Sn 244 469 (o_callV (e_s1 12 156 2) 1 472)) t_156_0 t_244_472
noncomputable def n_244_468 : e_Y := u_ld f_okA f_l2 n_244_469
theorem t_244_468 : e_Sn 244 468 (e_un n_244_468) := u_ldAT f_l2_eq (s_aload (i := .aload_n 2) (len := 1) hq_244 (by decide +kernel) rfl (.inr ⟨2, rfl, rfl, rfl⟩) : e_Sn 244 468 (o_load e_okR 2 469)) t_244_469
noncomputable def n_244_465 : e_Y := u_callV 0 21 2 21 1 n_21_0 n_244_468
theorem t_244_465 : e_Sn 244 465 (e_un n_244_465) := u_callVT rfl (s_callV (ci := 0) (C := er_0) (T := et_0) (N := 17) (index := 136) hq_244 ho_244 hy_21 hp_21 hc_21 hi_21 hd_21 (List.mem_of_getElem? (i := 1237) (by decide +kernel)) hs_21 (List.mem_of_getElem? (i := 1239) (by decide +kernel)) rfl (by decide +kernel) rfl : e_Sn 244 465 (o_callV (e_s1 0 21 2) 1 468)) t_21_0 t_244_468
noncomputable def n_244_464 : e_Y := u_ld f_okA f_l1 n_244_465
theorem t_244_464 : e_Sn 244 464 (e_un n_244_464) := u_ldAT f_l1_eq (s_aload (i := .aload_n 1) (len := 1) hq_244 (by decide +kernel) rfl (.inr ⟨1, rfl, rfl, rfl⟩) : e_Sn 244 464 (o_load e_okR 1 465)) t_244_465
noncomputable def n_244_459 : e_Y := u_jmp y_ne (u_old2 (o_ceq 2235 462) 2235 n_244_2235 (u_at 462)) n_244_2235 (u_at 462)
theorem t_244_459 : e_Sn 244 459 (e_un n_244_459) := u_ceqT rfl (s_ceq (off := (1776)) hq_244 (by decide +kernel) rfl rfl : e_Sn 244 459 (o_ceq 2235 462)) t_244_2235 u_atT
noncomputable def n_244_456 : e_Y := u_callV 12 191 4 23 1 n_191_0 n_244_459
theorem t_244_456 : e_Sn 244 456 (e_un n_244_456) := u_callVT rfl (s_callVW (ci := 12) (C := er_12) (T := et_12) (N := 5) (index := 135) hq_244 ho_244 hy_191 hp_191 hc_191 hi_191 hd_191 (List.mem_of_getElem? (i := 2037) (by decide +kernel)) hs_191 (List.mem_of_getElem? (i := 2039) (by decide +kernel)) rfl (by decide +kernel) rfl : e_Sn 244 456 (o_callV (e_s1 12 191 4) 1 459)) t_191_0 t_244_459
noncomputable def n_244_455 : e_Y := u_ld f_okA f_l2 n_244_456
theorem t_244_455 : e_Sn 244 455 (e_un n_244_455) := u_ldAT f_l2_eq (s_aload (i := .aload_n 2) (len := 1) hq_244 (by decide +kernel) rfl (.inr ⟨2, rfl, rfl, rfl⟩) : e_Sn 244 455 (o_load e_okR 2 456)) t_244_456
noncomputable def n_244_452 : e_Y := u_callV 0 47 3 22 1 n_47_0 n_244_455
theorem t_244_452 : e_Sn 244 452 (e_un n_244_452) := u_callVT rfl (s_callV (ci := 0) (C := er_0) (T := et_0) (N := 17) (index := 132) hq_244 ho_244 hy_47 hp_47 hc_47 hi_47 hd_47 (List.mem_of_getElem? (i := 736) (by decide +kernel)) hs_47 (List.mem_of_getElem? (i := 738) (by decide +kernel)) rfl (by decide +kernel) rfl : e_Sn 244 452 (o_callV (e_s1 0 47 3) 1 455)) t_47_0 t_244_455
noncomputable def n_244_451 : e_Y := u_ld f_okA f_l1 n_244_452
theorem t_244_451 : e_Sn 244 451 (e_un n_244_451) := u_ldAT f_l1_eq (s_aload (i := .aload_n 1) (len := 1) hq_244 (by decide +kernel) rfl (.inr ⟨1, rfl, rfl, rfl⟩) : e_Sn 244 451 (o_load e_okR 1 452)) t_244_452
noncomputable def n_244_446 : e_Y := u_jmp y_ne (u_old2 (o_ceq 2235 449) 2235 n_244_2235 (u_at 449)) n_244_2235 (u_at 449)
theorem t_244_446 : e_Sn 244 446 (e_un n_244_446) := u_ceqT rfl (s_ceq (off := (1789)) hq_244 (by decide +kernel) rfl rfl : e_Sn 244 446 (o_ceq 2235 449)) t_244_2235 u_atT
noncomputable def n_244_443 : e_Y := u_callV 12 203 2 21 1 n_203_0 n_244_446
theorem t_244_443 : e_Sn 244 443 (e_un n_244_443) := u_callVT rfl (s_callV (ci := 12) (C := er_12) (T := et_12) (N := 5) (index := 131) hq_244 ho_244 hy_203 hp_203 hc_203 hi_203 hd_203 (List.mem_of_getElem? (i := 2033) (by decide +kernel)) hs_203 (List.mem_of_getElem? (i := 2035) (by decide +kernel)) rfl (by decide +kernel) rfl : e_Sn 244 443 (o_callV (e_s1 12 203 2) 1 446)) t_203_0 t_244_446
noncomputable def n_244_442 : e_Y := u_ld f_okA f_l2 n_244_443
theorem t_244_442 : e_Sn 244 442 (e_un n_244_442) := u_ldAT f_l2_eq (s_aload (i := .aload_n 2) (len := 1) hq_244 (by decide +kernel) rfl (.inr ⟨2, rfl, rfl, rfl⟩) : e_Sn 244 442 (o_load e_okR 2 443)) t_244_443
noncomputable def n_244_439 : e_Y := u_callV 0 58 2 21 1 n_58_0 n_244_442
theorem t_244_439 : e_Sn 244 439 (e_un n_244_439) := u_callVT rfl (s_callV (ci := 0) (C := er_0) (T := et_0) (N := 17) (index := 128) hq_244 ho_244 hy_58 hp_58 hc_58 hi_58 hd_58 (List.mem_of_getElem? (i := 732) (by decide +kernel)) hs_58 (List.mem_of_getElem? (i := 734) (by decide +kernel)) rfl (by decide +kernel) rfl : e_Sn 244 439 (o_callV (e_s1 0 58 2) 1 442)) t_58_0 t_244_442
noncomputable def n_244_438 : e_Y := u_ld f_okA f_l1 n_244_439
theorem t_244_438 : e_Sn 244 438 (e_un n_244_438) := u_ldAT f_l1_eq (s_aload (i := .aload_n 1) (len := 1) hq_244 (by decide +kernel) rfl (.inr ⟨1, rfl, rfl, rfl⟩) : e_Sn 244 438 (o_load e_okR 1 439)) t_244_439
noncomputable def n_244_435 : e_Y := n_244_2235
theorem t_244_435 : e_Sn 244 435 (e_un n_244_435) := u_gotoT (s_goto (off := (1800)) hq_244 (by decide +kernel) rfl : e_Sn 244 435 (o_goto 2235)) t_244_2235
noncomputable def n_244_420 : e_Y := u_if y_ne0 (u_old2 (o_ifeq 423 435) 423 (u_at 423) n_244_435) (u_at 423) n_244_435
theorem t_244_420 : e_Sn 244 420 (e_un n_244_420) := u_ifeqT rfl (s_ifne (off := (15)) hq_244 (by decide +kernel) rfl rfl : e_Sn 244 420 (o_ifeq 423 435)) u_atT t_244_435
noncomputable def n_244_418 : e_Y := u_ld f_okI f_l5 n_244_420
theorem t_244_418 : e_Sn 244 418 (e_un n_244_418) := u_ldIT f_l5_eq (s_iload (i := .iload 5) (len := 2) hq_244 (by decide +kernel) rfl (.inl ⟨rfl, rfl⟩) : e_Sn 244 418 (o_load e_okI 5 420)) t_244_420
noncomputable def n_244_413 : e_Y := u_jmp y_ne (u_old2 (o_ceq 418 416) 418 n_244_418 (u_at 416)) n_244_418 (u_at 416)
theorem t_244_413 : e_Sn 244 413 (e_un n_244_413) := u_ceqT rfl (s_ceq (off := (5)) hq_244 (by decide +kernel) rfl rfl : e_Sn 244 413 (o_ceq 418 416)) t_244_418 u_atT
noncomputable def n_244_411 : e_Y := u_ld f_okI f_l5 n_244_413
theorem t_244_411 : e_Sn 244 411 (e_un n_244_411) := u_ldIT f_l5_eq (s_iload (i := .iload 5) (len := 2) hq_244 (by decide +kernel) rfl (.inl ⟨rfl, rfl⟩) : e_Sn 244 411 (o_load e_okI 5 413)) t_244_413
noncomputable def n_244_408 : e_Y := u_callV 12 199 1 20 1 n_199_0 n_244_411
theorem t_244_408 : e_Sn 244 408 (e_un n_244_408) := u_callVT rfl (s_callV (ci := 12) (C := er_12) (T := et_12) (N := 5) (index := 117) hq_244 ho_244 hy_199 hp_199 hc_199 hi_199 hd_199 (List.mem_of_getElem? (i := 1974) (by decide +kernel)) hs_199 (List.mem_of_getElem? (i := 1976) (by decide +kernel)) rfl (by decide +kernel) rfl : e_Sn 244 408 (o_callV (e_s1 12 199 1) 1 411)) t_199_0 t_244_411
noncomputable def n_244_407 : e_Y := u_ld f_okA f_l2 n_244_408
theorem t_244_407 : e_Sn 244 407 (e_un n_244_407) := u_ldAT f_l2_eq (s_aload (i := .aload_n 2) (len := 1) hq_244 (by decide +kernel) rfl (.inr ⟨2, rfl, rfl, rfl⟩) : e_Sn 244 407 (o_load e_okR 2 408)) t_244_408
noncomputable def n_244_405 : e_Y := u_st f_okI f_s6 n_244_407
theorem t_244_405 : e_Sn 244 405 (e_un n_244_405) := u_stIT (fun _ _ _ => f_s6_eq) (s_istore (i := .istore 6) (len := 2) hq_244 (by decide +kernel) rfl (.inl ⟨rfl, rfl⟩) : e_Sn 244 405 (o_store e_okI 6 407)) t_244_407
noncomputable def n_244_402 : e_Y := u_callV 12 149 1 20 1 n_149_0 n_244_405
theorem t_244_402 : e_Sn 244 402 (e_un n_244_402) := u_callVT rfl (s_callV (ci := 12) (C := er_12) (T := et_12) (N := 5) (index := 127) hq_244 ho_244 hy_149 hp_149 hc_149 hi_149 hd_149 (List.mem_of_getElem? (i := 2009) (by decide +kernel)) hs_149 (List.mem_of_getElem? (i := 2011) (by decide +kernel)) rfl (by decide +kernel) rfl : e_Sn 244 402 (o_callV (e_s1 12 149 1) 1 405)) t_149_0 t_244_405
noncomputable def n_244_401 : e_Y := u_ld f_okA f_l2 n_244_402
theorem t_244_401 : e_Sn 244 401 (e_un n_244_401) := u_ldAT f_l2_eq (s_aload (i := .aload_n 2) (len := 1) hq_244 (by decide +kernel) rfl (.inr ⟨2, rfl, rfl, rfl⟩) : e_Sn 244 401 (o_load e_okR 2 402)) t_244_402
noncomputable def n_244_399 : e_Y := u_st f_okI f_s5 n_244_401
theorem t_244_399 : e_Sn 244 399 (e_un n_244_399) := u_stIT (fun _ _ _ => f_s5_eq) (s_istore (i := .istore 5) (len := 2) hq_244 (by decide +kernel) rfl (.inl ⟨rfl, rfl⟩) : e_Sn 244 399 (o_store e_okI 5 401)) t_244_401
noncomputable def n_244_396 : e_Y := u_callS 110 3 22 2 n_110_0 n_244_399
theorem t_244_396 : e_Sn 244 396 (e_un n_244_396) := u_callST rfl (s_callSW (index := 124) hq_244 ho_244 hy_110 hp_110 hc_110 hi_110 hd_110 (List.mem_of_getElem? (i := 1601) (by decide +kernel)) hs_110 (by decide +kernel) rfl : e_Sn 244 396 (o_callS 110 3 2 399)) t_110_0 t_244_399
noncomputable def n_244_395 : e_Y := u_ld f_okA f_l3 n_244_396
theorem t_244_395 : e_Sn 244 395 (e_un n_244_395) := u_ldAT f_l3_eq (s_aload (i := .aload_n 3) (len := 1) hq_244 (by decide +kernel) rfl (.inr ⟨3, rfl, rfl, rfl⟩) : e_Sn 244 395 (o_load e_okR 3 396)) t_244_396
noncomputable def n_244_394 : e_Y := u_ld f_okA f_l1 n_244_395
theorem t_244_394 : e_Sn 244 394 (e_un n_244_394) := u_ldAT f_l1_eq (s_aload (i := .aload_n 1) (len := 1) hq_244 (by decide +kernel) rfl (.inr ⟨1, rfl, rfl, rfl⟩) : e_Sn 244 394 (o_load e_okR 1 395)) t_244_395
noncomputable def n_244_391 : e_Y := n_244_2235
theorem t_244_391 : e_Sn 244 391 (e_un n_244_391) := u_gotoT (s_goto (off := (1844)) hq_244 (by decide +kernel) rfl : e_Sn 244 391 (o_goto 2235)) t_244_2235
noncomputable def n_244_386 : e_Y := u_if y_ne0 (u_old2 (o_ifeq 391 389) 391 n_244_391 (u_at 389)) n_244_391 (u_at 389)
theorem t_244_386 : e_Sn 244 386 (e_un n_244_386) := u_ifeqT rfl (s_ifeq (off := (5)) hq_244 (by decide +kernel) rfl rfl : e_Sn 244 386 (o_ifeq 391 389)) t_244_391 u_atT
noncomputable def n_244_385 : e_Y := u_old (o_lcmp 386) n_244_386
theorem t_244_385 : e_Sn 244 385 (e_un n_244_385) := u_oldT (s_lcmp hq_244 (by decide +kernel) rfl : e_Sn 244 385 (o_lcmp 386)) t_244_386 e_cg_lcmp
noncomputable def n_244_384 : e_Y := u_old (o_i2l 385) n_244_385
theorem t_244_384 : e_Sn 244 384 (e_un n_244_384) := u_oldT (s_i2l hq_244 (by decide +kernel) rfl : e_Sn 244 384 (o_i2l 385)) t_244_385 e_congr_i2l
noncomputable def n_244_382 : e_Y := u_ld f_okI f_l6 n_244_384
theorem t_244_382 : e_Sn 244 382 (e_un n_244_382) := u_ldIT f_l6_eq (s_iload (i := .iload 6) (len := 2) hq_244 (by decide +kernel) rfl (.inl ⟨rfl, rfl⟩) : e_Sn 244 382 (o_load e_okI 6 384)) t_244_384
noncomputable def n_244_381 : e_Y := u_ald 2 (u_old (o_aldO 2 382) n_244_382) n_244_382
theorem t_244_381 : e_Sn 244 381 (e_un n_244_381) := u_aldOT (s_lald hq_244 (by decide +kernel) rfl : e_Sn 244 381 (o_aldO 2 382)) t_244_382
noncomputable def n_244_380 : e_Y := u_push (.inl 2147483648) n_244_381
theorem t_244_380 : e_Sn 244 380 (e_un n_244_380) := u_pushT (s_iconst (n := (0)) hq_244 (by decide +kernel) rfl ⟨by decide +kernel, by decide +kernel⟩ : e_Sn 244 380 (o_push (.inl 2147483648) 381)) t_244_381
noncomputable def n_244_379 : e_Y := u_ld f_okA f_l3 n_244_380
theorem t_244_379 : e_Sn 244 379 (e_un n_244_379) := u_ldAT f_l3_eq (s_aload (i := .aload_n 3) (len := 1) hq_244 (by decide +kernel) rfl (.inr ⟨3, rfl, rfl, rfl⟩) : e_Sn 244 379 (o_load e_okR 3 380)) t_244_380
noncomputable def n_244_376 : e_Y := u_if y_ne0 (u_old2 (o_ifeq 379 391) 379 n_244_379 n_244_391) n_244_379 n_244_391
theorem t_244_376 : e_Sn 244 376 (e_un n_244_376) := u_ifeqT rfl (s_ifne (off := (15)) hq_244 (by decide +kernel) rfl rfl : e_Sn 244 376 (o_ifeq 379 391)) t_244_379 t_244_391
noncomputable def n_244_374 : e_Y := u_ld f_okI f_l5 n_244_376
theorem t_244_374 : e_Sn 244 374 (e_un n_244_374) := u_ldIT f_l5_eq (s_iload (i := .iload 5) (len := 2) hq_244 (by decide +kernel) rfl (.inl ⟨rfl, rfl⟩) : e_Sn 244 374 (o_load e_okI 5 376)) t_244_376
noncomputable def n_244_369 : e_Y := u_jmp y_ne (u_old2 (o_ceq 374 372) 374 n_244_374 (u_at 372)) n_244_374 (u_at 372)
theorem t_244_369 : e_Sn 244 369 (e_un n_244_369) := u_ceqT rfl (s_ceq (off := (5)) hq_244 (by decide +kernel) rfl rfl : e_Sn 244 369 (o_ceq 374 372)) t_244_374 u_atT
noncomputable def n_244_367 : e_Y := u_ld f_okI f_l5 n_244_369
theorem t_244_367 : e_Sn 244 367 (e_un n_244_367) := u_ldIT f_l5_eq (s_iload (i := .iload 5) (len := 2) hq_244 (by decide +kernel) rfl (.inl ⟨rfl, rfl⟩) : e_Sn 244 367 (o_load e_okI 5 369)) t_244_369
noncomputable def n_244_364 : e_Y := u_callV 12 199 1 20 1 n_199_0 n_244_367
theorem t_244_364 : e_Sn 244 364 (e_un n_244_364) := u_callVT rfl (s_callV (ci := 12) (C := er_12) (T := et_12) (N := 5) (index := 117) hq_244 ho_244 hy_199 hp_199 hc_199 hi_199 hd_199 (List.mem_of_getElem? (i := 1974) (by decide +kernel)) hs_199 (List.mem_of_getElem? (i := 1976) (by decide +kernel)) rfl (by decide +kernel) rfl : e_Sn 244 364 (o_callV (e_s1 12 199 1) 1 367)) t_199_0 t_244_367
noncomputable def n_244_363 : e_Y := u_ld f_okA f_l2 n_244_364
theorem t_244_363 : e_Sn 244 363 (e_un n_244_363) := u_ldAT f_l2_eq (s_aload (i := .aload_n 2) (len := 1) hq_244 (by decide +kernel) rfl (.inr ⟨2, rfl, rfl, rfl⟩) : e_Sn 244 363 (o_load e_okR 2 364)) t_244_364
noncomputable def n_244_361 : e_Y := u_st f_okI f_s6 n_244_363
theorem t_244_361 : e_Sn 244 361 (e_un n_244_361) := u_stIT (fun _ _ _ => f_s6_eq) (s_istore (i := .istore 6) (len := 2) hq_244 (by decide +kernel) rfl (.inl ⟨rfl, rfl⟩) : e_Sn 244 361 (o_store e_okI 6 363)) t_244_363
noncomputable def n_244_358 : e_Y := u_callV 12 198 8 27 7 n_198_0 n_244_361
theorem t_244_358 : e_Sn 244 358 (e_un n_244_358) := u_callVT rfl (s_callV (ci := 12) (C := er_12) (T := et_12) (N := 5) (index := 123) hq_244 ho_244 hy_198 hp_198 hc_198 hi_198 hd_198 (List.mem_of_getElem? (i := 2005) (by decide +kernel)) hs_198 (List.mem_of_getElem? (i := 2007) (by decide +kernel)) rfl (by decide +kernel) rfl : e_Sn 244 358 (o_callV (e_s1 12 198 8) 7 361)) t_198_0 t_244_361
noncomputable def n_244_357 : e_Y := u_ald 0 (u_old (o_ald e_fcs 358) n_244_358) n_244_358
theorem t_244_357 : e_Sn 244 357 (e_un n_244_357) := u_aldT (s_iald hq_244 (by decide +kernel) rfl : e_Sn 244 357 (o_ald e_fcs 358)) t_244_358
noncomputable def n_244_356 : e_Y := u_bin a_iadd (u_old (o_iadd 357) n_244_357) n_244_357
theorem t_244_356 : e_Sn 244 356 (e_un n_244_356) := u_iaddT (s_iadd hq_244 (by decide +kernel) rfl : e_Sn 244 356 (o_iadd 357)) t_244_357
noncomputable def n_244_354 : e_Y := u_push (.inl 2147483654) n_244_356
theorem t_244_354 : e_Sn 244 354 (e_un n_244_354) := u_pushT (s_bipush (n := (6)) hq_244 (by decide +kernel) rfl ⟨by decide +kernel, by decide +kernel⟩ : e_Sn 244 354 (o_push (.inl 2147483654) 356)) t_244_356
noncomputable def n_244_352 : e_Y := u_ld f_okI f_l4 n_244_354
theorem t_244_352 : e_Sn 244 352 (e_un n_244_352) := u_ldIT f_l4_eq (s_iload (i := .iload 4) (len := 2) hq_244 (by decide +kernel) rfl (.inl ⟨rfl, rfl⟩) : e_Sn 244 352 (o_load e_okI 4 354)) t_244_354
noncomputable def n_244_351 : e_Y := u_ld f_okA f_l0 n_244_352
theorem t_244_351 : e_Sn 244 351 (e_un n_244_351) := u_ldAT f_l0_eq (s_aload (i := .aload_n 0) (len := 1) hq_244 (by decide +kernel) rfl (.inr ⟨0, rfl, rfl, rfl⟩) : e_Sn 244 351 (o_load e_okR 0 352)) t_244_352
noncomputable def n_244_350 : e_Y := u_ald 0 (u_old (o_ald e_fcs 351) n_244_351) n_244_351
theorem t_244_350 : e_Sn 244 350 (e_un n_244_350) := u_aldT (s_iald hq_244 (by decide +kernel) rfl : e_Sn 244 350 (o_ald e_fcs 351)) t_244_351
noncomputable def n_244_349 : e_Y := u_bin a_iadd (u_old (o_iadd 350) n_244_350) n_244_350
theorem t_244_349 : e_Sn 244 349 (e_un n_244_349) := u_iaddT (s_iadd hq_244 (by decide +kernel) rfl : e_Sn 244 349 (o_iadd 350)) t_244_350
noncomputable def n_244_348 : e_Y := u_push (.inl 2147483653) n_244_349
theorem t_244_348 : e_Sn 244 348 (e_un n_244_348) := u_pushT (s_iconst (n := (5)) hq_244 (by decide +kernel) rfl ⟨by decide +kernel, by decide +kernel⟩ : e_Sn 244 348 (o_push (.inl 2147483653) 349)) t_244_349
noncomputable def n_244_346 : e_Y := u_ld f_okI f_l4 n_244_348
theorem t_244_346 : e_Sn 244 346 (e_un n_244_346) := u_ldIT f_l4_eq (s_iload (i := .iload 4) (len := 2) hq_244 (by decide +kernel) rfl (.inl ⟨rfl, rfl⟩) : e_Sn 244 346 (o_load e_okI 4 348)) t_244_348
noncomputable def n_244_345 : e_Y := u_ld f_okA f_l0 n_244_346
theorem t_244_345 : e_Sn 244 345 (e_un n_244_345) := u_ldAT f_l0_eq (s_aload (i := .aload_n 0) (len := 1) hq_244 (by decide +kernel) rfl (.inr ⟨0, rfl, rfl, rfl⟩) : e_Sn 244 345 (o_load e_okR 0 346)) t_244_346
noncomputable def n_244_344 : e_Y := u_ald 0 (u_old (o_ald e_fcs 345) n_244_345) n_244_345
theorem t_244_344 : e_Sn 244 344 (e_un n_244_344) := u_aldT (s_iald hq_244 (by decide +kernel) rfl : e_Sn 244 344 (o_ald e_fcs 345)) t_244_345
noncomputable def n_244_343 : e_Y := u_bin a_iadd (u_old (o_iadd 344) n_244_344) n_244_344
theorem t_244_343 : e_Sn 244 343 (e_un n_244_343) := u_iaddT (s_iadd hq_244 (by decide +kernel) rfl : e_Sn 244 343 (o_iadd 344)) t_244_344
noncomputable def n_244_342 : e_Y := u_push (.inl 2147483652) n_244_343
theorem t_244_342 : e_Sn 244 342 (e_un n_244_342) := u_pushT (s_iconst (n := (4)) hq_244 (by decide +kernel) rfl ⟨by decide +kernel, by decide +kernel⟩ : e_Sn 244 342 (o_push (.inl 2147483652) 343)) t_244_343
noncomputable def n_244_340 : e_Y := u_ld f_okI f_l4 n_244_342
theorem t_244_340 : e_Sn 244 340 (e_un n_244_340) := u_ldIT f_l4_eq (s_iload (i := .iload 4) (len := 2) hq_244 (by decide +kernel) rfl (.inl ⟨rfl, rfl⟩) : e_Sn 244 340 (o_load e_okI 4 342)) t_244_342
noncomputable def n_244_339 : e_Y := u_ld f_okA f_l0 n_244_340
theorem t_244_339 : e_Sn 244 339 (e_un n_244_339) := u_ldAT f_l0_eq (s_aload (i := .aload_n 0) (len := 1) hq_244 (by decide +kernel) rfl (.inr ⟨0, rfl, rfl, rfl⟩) : e_Sn 244 339 (o_load e_okR 0 340)) t_244_340
noncomputable def n_244_338 : e_Y := u_ald 0 (u_old (o_ald e_fcs 339) n_244_339) n_244_339
theorem t_244_338 : e_Sn 244 338 (e_un n_244_338) := u_aldT (s_iald hq_244 (by decide +kernel) rfl : e_Sn 244 338 (o_ald e_fcs 339)) t_244_339
noncomputable def n_244_337 : e_Y := u_bin a_iadd (u_old (o_iadd 338) n_244_338) n_244_338
theorem t_244_337 : e_Sn 244 337 (e_un n_244_337) := u_iaddT (s_iadd hq_244 (by decide +kernel) rfl : e_Sn 244 337 (o_iadd 338)) t_244_338
noncomputable def n_244_336 : e_Y := u_push (.inl 2147483651) n_244_337
theorem t_244_336 : e_Sn 244 336 (e_un n_244_336) := u_pushT (s_iconst (n := (3)) hq_244 (by decide +kernel) rfl ⟨by decide +kernel, by decide +kernel⟩ : e_Sn 244 336 (o_push (.inl 2147483651) 337)) t_244_337
noncomputable def n_244_334 : e_Y := u_ld f_okI f_l4 n_244_336
theorem t_244_334 : e_Sn 244 334 (e_un n_244_334) := u_ldIT f_l4_eq (s_iload (i := .iload 4) (len := 2) hq_244 (by decide +kernel) rfl (.inl ⟨rfl, rfl⟩) : e_Sn 244 334 (o_load e_okI 4 336)) t_244_336
noncomputable def n_244_333 : e_Y := u_ld f_okA f_l0 n_244_334
theorem t_244_333 : e_Sn 244 333 (e_un n_244_333) := u_ldAT f_l0_eq (s_aload (i := .aload_n 0) (len := 1) hq_244 (by decide +kernel) rfl (.inr ⟨0, rfl, rfl, rfl⟩) : e_Sn 244 333 (o_load e_okR 0 334)) t_244_334
noncomputable def n_244_332 : e_Y := u_ald 0 (u_old (o_ald e_fcs 333) n_244_333) n_244_333
theorem t_244_332 : e_Sn 244 332 (e_un n_244_332) := u_aldT (s_iald hq_244 (by decide +kernel) rfl : e_Sn 244 332 (o_ald e_fcs 333)) t_244_333
noncomputable def n_244_331 : e_Y := u_bin a_iadd (u_old (o_iadd 332) n_244_332) n_244_332
theorem t_244_331 : e_Sn 244 331 (e_un n_244_331) := u_iaddT (s_iadd hq_244 (by decide +kernel) rfl : e_Sn 244 331 (o_iadd 332)) t_244_332
noncomputable def n_244_330 : e_Y := u_push (.inl 2147483650) n_244_331
theorem t_244_330 : e_Sn 244 330 (e_un n_244_330) := u_pushT (s_iconst (n := (2)) hq_244 (by decide +kernel) rfl ⟨by decide +kernel, by decide +kernel⟩ : e_Sn 244 330 (o_push (.inl 2147483650) 331)) t_244_331
noncomputable def n_244_328 : e_Y := u_ld f_okI f_l4 n_244_330
theorem t_244_328 : e_Sn 244 328 (e_un n_244_328) := u_ldIT f_l4_eq (s_iload (i := .iload 4) (len := 2) hq_244 (by decide +kernel) rfl (.inl ⟨rfl, rfl⟩) : e_Sn 244 328 (o_load e_okI 4 330)) t_244_330
noncomputable def n_244_327 : e_Y := u_ld f_okA f_l0 n_244_328
theorem t_244_327 : e_Sn 244 327 (e_un n_244_327) := u_ldAT f_l0_eq (s_aload (i := .aload_n 0) (len := 1) hq_244 (by decide +kernel) rfl (.inr ⟨0, rfl, rfl, rfl⟩) : e_Sn 244 327 (o_load e_okR 0 328)) t_244_328
noncomputable def n_244_326 : e_Y := u_ald 0 (u_old (o_ald e_fcs 327) n_244_327) n_244_327
theorem t_244_326 : e_Sn 244 326 (e_un n_244_326) := u_aldT (s_iald hq_244 (by decide +kernel) rfl : e_Sn 244 326 (o_ald e_fcs 327)) t_244_327
noncomputable def n_244_325 : e_Y := u_bin a_iadd (u_old (o_iadd 326) n_244_326) n_244_326
theorem t_244_325 : e_Sn 244 325 (e_un n_244_325) := u_iaddT (s_iadd hq_244 (by decide +kernel) rfl : e_Sn 244 325 (o_iadd 326)) t_244_326
noncomputable def n_244_324 : e_Y := u_push (.inl 2147483649) n_244_325
theorem t_244_324 : e_Sn 244 324 (e_un n_244_324) := u_pushT (s_iconst (n := (1)) hq_244 (by decide +kernel) rfl ⟨by decide +kernel, by decide +kernel⟩ : e_Sn 244 324 (o_push (.inl 2147483649) 325)) t_244_325
noncomputable def n_244_322 : e_Y := u_ld f_okI f_l4 n_244_324
theorem t_244_322 : e_Sn 244 322 (e_un n_244_322) := u_ldIT f_l4_eq (s_iload (i := .iload 4) (len := 2) hq_244 (by decide +kernel) rfl (.inl ⟨rfl, rfl⟩) : e_Sn 244 322 (o_load e_okI 4 324)) t_244_324
noncomputable def n_244_321 : e_Y := u_ld f_okA f_l0 n_244_322
theorem t_244_321 : e_Sn 244 321 (e_un n_244_321) := u_ldAT f_l0_eq (s_aload (i := .aload_n 0) (len := 1) hq_244 (by decide +kernel) rfl (.inr ⟨0, rfl, rfl, rfl⟩) : e_Sn 244 321 (o_load e_okR 0 322)) t_244_322
noncomputable def n_244_320 : e_Y := u_ld f_okA f_l2 n_244_321
theorem t_244_320 : e_Sn 244 320 (e_un n_244_320) := u_ldAT f_l2_eq (s_aload (i := .aload_n 2) (len := 1) hq_244 (by decide +kernel) rfl (.inr ⟨2, rfl, rfl, rfl⟩) : e_Sn 244 320 (o_load e_okR 2 321)) t_244_321
noncomputable def n_244_318 : e_Y := u_st f_okI f_s5 n_244_320
theorem t_244_318 : e_Sn 244 318 (e_un n_244_318) := u_stIT (fun _ _ _ => f_s5_eq) (s_istore (i := .istore 5) (len := 2) hq_244 (by decide +kernel) rfl (.inl ⟨rfl, rfl⟩) : e_Sn 244 318 (o_store e_okI 5 320)) t_244_320
noncomputable def n_244_315 : e_Y := u_callS 129 9 28 8 n_129_0 n_244_318
theorem t_244_315 : e_Sn 244 315 (e_un n_244_315) := u_callST rfl (s_callSW (index := 120) hq_244 ho_244 hy_129 hp_129 hc_129 hi_129 hd_129 (List.mem_of_getElem? (i := 1594) (by decide +kernel)) hs_129 (by decide +kernel) rfl : e_Sn 244 315 (o_callS 129 9 8 318)) t_129_0 t_244_318
noncomputable def n_244_314 : e_Y := u_ld f_okA f_l3 n_244_315
theorem t_244_314 : e_Sn 244 314 (e_un n_244_314) := u_ldAT f_l3_eq (s_aload (i := .aload_n 3) (len := 1) hq_244 (by decide +kernel) rfl (.inr ⟨3, rfl, rfl, rfl⟩) : e_Sn 244 314 (o_load e_okR 3 315)) t_244_315
noncomputable def n_244_313 : e_Y := u_ald 0 (u_old (o_ald e_fcs 314) n_244_314) n_244_314
theorem t_244_313 : e_Sn 244 313 (e_un n_244_313) := u_aldT (s_iald hq_244 (by decide +kernel) rfl : e_Sn 244 313 (o_ald e_fcs 314)) t_244_314
noncomputable def n_244_312 : e_Y := u_bin a_iadd (u_old (o_iadd 313) n_244_313) n_244_313
theorem t_244_312 : e_Sn 244 312 (e_un n_244_312) := u_iaddT (s_iadd hq_244 (by decide +kernel) rfl : e_Sn 244 312 (o_iadd 313)) t_244_313
noncomputable def n_244_310 : e_Y := u_push (.inl 2147483654) n_244_312
theorem t_244_310 : e_Sn 244 310 (e_un n_244_310) := u_pushT (s_bipush (n := (6)) hq_244 (by decide +kernel) rfl ⟨by decide +kernel, by decide +kernel⟩ : e_Sn 244 310 (o_push (.inl 2147483654) 312)) t_244_312
noncomputable def n_244_308 : e_Y := u_ld f_okI f_l4 n_244_310
theorem t_244_308 : e_Sn 244 308 (e_un n_244_308) := u_ldIT f_l4_eq (s_iload (i := .iload 4) (len := 2) hq_244 (by decide +kernel) rfl (.inl ⟨rfl, rfl⟩) : e_Sn 244 308 (o_load e_okI 4 310)) t_244_310
noncomputable def n_244_307 : e_Y := u_ld f_okA f_l0 n_244_308
theorem t_244_307 : e_Sn 244 307 (e_un n_244_307) := u_ldAT f_l0_eq (s_aload (i := .aload_n 0) (len := 1) hq_244 (by decide +kernel) rfl (.inr ⟨0, rfl, rfl, rfl⟩) : e_Sn 244 307 (o_load e_okR 0 308)) t_244_308
noncomputable def n_244_306 : e_Y := u_ald 0 (u_old (o_ald e_fcs 307) n_244_307) n_244_307
theorem t_244_306 : e_Sn 244 306 (e_un n_244_306) := u_aldT (s_iald hq_244 (by decide +kernel) rfl : e_Sn 244 306 (o_ald e_fcs 307)) t_244_307
noncomputable def n_244_305 : e_Y := u_bin a_iadd (u_old (o_iadd 306) n_244_306) n_244_306
theorem t_244_305 : e_Sn 244 305 (e_un n_244_305) := u_iaddT (s_iadd hq_244 (by decide +kernel) rfl : e_Sn 244 305 (o_iadd 306)) t_244_306
noncomputable def n_244_304 : e_Y := u_push (.inl 2147483653) n_244_305
theorem t_244_304 : e_Sn 244 304 (e_un n_244_304) := u_pushT (s_iconst (n := (5)) hq_244 (by decide +kernel) rfl ⟨by decide +kernel, by decide +kernel⟩ : e_Sn 244 304 (o_push (.inl 2147483653) 305)) t_244_305
noncomputable def n_244_302 : e_Y := u_ld f_okI f_l4 n_244_304
theorem t_244_302 : e_Sn 244 302 (e_un n_244_302) := u_ldIT f_l4_eq (s_iload (i := .iload 4) (len := 2) hq_244 (by decide +kernel) rfl (.inl ⟨rfl, rfl⟩) : e_Sn 244 302 (o_load e_okI 4 304)) t_244_304
noncomputable def n_244_301 : e_Y := u_ld f_okA f_l0 n_244_302
theorem t_244_301 : e_Sn 244 301 (e_un n_244_301) := u_ldAT f_l0_eq (s_aload (i := .aload_n 0) (len := 1) hq_244 (by decide +kernel) rfl (.inr ⟨0, rfl, rfl, rfl⟩) : e_Sn 244 301 (o_load e_okR 0 302)) t_244_302
noncomputable def n_244_300 : e_Y := u_ald 0 (u_old (o_ald e_fcs 301) n_244_301) n_244_301
theorem t_244_300 : e_Sn 244 300 (e_un n_244_300) := u_aldT (s_iald hq_244 (by decide +kernel) rfl : e_Sn 244 300 (o_ald e_fcs 301)) t_244_301
noncomputable def n_244_299 : e_Y := u_bin a_iadd (u_old (o_iadd 300) n_244_300) n_244_300
theorem t_244_299 : e_Sn 244 299 (e_un n_244_299) := u_iaddT (s_iadd hq_244 (by decide +kernel) rfl : e_Sn 244 299 (o_iadd 300)) t_244_300
noncomputable def n_244_298 : e_Y := u_push (.inl 2147483652) n_244_299
theorem t_244_298 : e_Sn 244 298 (e_un n_244_298) := u_pushT (s_iconst (n := (4)) hq_244 (by decide +kernel) rfl ⟨by decide +kernel, by decide +kernel⟩ : e_Sn 244 298 (o_push (.inl 2147483652) 299)) t_244_299
noncomputable def n_244_296 : e_Y := u_ld f_okI f_l4 n_244_298
theorem t_244_296 : e_Sn 244 296 (e_un n_244_296) := u_ldIT f_l4_eq (s_iload (i := .iload 4) (len := 2) hq_244 (by decide +kernel) rfl (.inl ⟨rfl, rfl⟩) : e_Sn 244 296 (o_load e_okI 4 298)) t_244_298
noncomputable def n_244_295 : e_Y := u_ld f_okA f_l0 n_244_296
theorem t_244_295 : e_Sn 244 295 (e_un n_244_295) := u_ldAT f_l0_eq (s_aload (i := .aload_n 0) (len := 1) hq_244 (by decide +kernel) rfl (.inr ⟨0, rfl, rfl, rfl⟩) : e_Sn 244 295 (o_load e_okR 0 296)) t_244_296
noncomputable def n_244_294 : e_Y := u_ald 0 (u_old (o_ald e_fcs 295) n_244_295) n_244_295
theorem t_244_294 : e_Sn 244 294 (e_un n_244_294) := u_aldT (s_iald hq_244 (by decide +kernel) rfl : e_Sn 244 294 (o_ald e_fcs 295)) t_244_295
noncomputable def n_244_293 : e_Y := u_bin a_iadd (u_old (o_iadd 294) n_244_294) n_244_294
theorem t_244_293 : e_Sn 244 293 (e_un n_244_293) := u_iaddT (s_iadd hq_244 (by decide +kernel) rfl : e_Sn 244 293 (o_iadd 294)) t_244_294
noncomputable def n_244_292 : e_Y := u_push (.inl 2147483651) n_244_293
theorem t_244_292 : e_Sn 244 292 (e_un n_244_292) := u_pushT (s_iconst (n := (3)) hq_244 (by decide +kernel) rfl ⟨by decide +kernel, by decide +kernel⟩ : e_Sn 244 292 (o_push (.inl 2147483651) 293)) t_244_293
noncomputable def n_244_290 : e_Y := u_ld f_okI f_l4 n_244_292
theorem t_244_290 : e_Sn 244 290 (e_un n_244_290) := u_ldIT f_l4_eq (s_iload (i := .iload 4) (len := 2) hq_244 (by decide +kernel) rfl (.inl ⟨rfl, rfl⟩) : e_Sn 244 290 (o_load e_okI 4 292)) t_244_292
noncomputable def n_244_289 : e_Y := u_ld f_okA f_l0 n_244_290
theorem t_244_289 : e_Sn 244 289 (e_un n_244_289) := u_ldAT f_l0_eq (s_aload (i := .aload_n 0) (len := 1) hq_244 (by decide +kernel) rfl (.inr ⟨0, rfl, rfl, rfl⟩) : e_Sn 244 289 (o_load e_okR 0 290)) t_244_290
noncomputable def n_244_288 : e_Y := u_ald 0 (u_old (o_ald e_fcs 289) n_244_289) n_244_289
theorem t_244_288 : e_Sn 244 288 (e_un n_244_288) := u_aldT (s_iald hq_244 (by decide +kernel) rfl : e_Sn 244 288 (o_ald e_fcs 289)) t_244_289
noncomputable def n_244_287 : e_Y := u_bin a_iadd (u_old (o_iadd 288) n_244_288) n_244_288
theorem t_244_287 : e_Sn 244 287 (e_un n_244_287) := u_iaddT (s_iadd hq_244 (by decide +kernel) rfl : e_Sn 244 287 (o_iadd 288)) t_244_288
noncomputable def n_244_286 : e_Y := u_push (.inl 2147483650) n_244_287
theorem t_244_286 : e_Sn 244 286 (e_un n_244_286) := u_pushT (s_iconst (n := (2)) hq_244 (by decide +kernel) rfl ⟨by decide +kernel, by decide +kernel⟩ : e_Sn 244 286 (o_push (.inl 2147483650) 287)) t_244_287
noncomputable def n_244_284 : e_Y := u_ld f_okI f_l4 n_244_286
theorem t_244_284 : e_Sn 244 284 (e_un n_244_284) := u_ldIT f_l4_eq (s_iload (i := .iload 4) (len := 2) hq_244 (by decide +kernel) rfl (.inl ⟨rfl, rfl⟩) : e_Sn 244 284 (o_load e_okI 4 286)) t_244_286
noncomputable def n_244_283 : e_Y := u_ld f_okA f_l0 n_244_284
theorem t_244_283 : e_Sn 244 283 (e_un n_244_283) := u_ldAT f_l0_eq (s_aload (i := .aload_n 0) (len := 1) hq_244 (by decide +kernel) rfl (.inr ⟨0, rfl, rfl, rfl⟩) : e_Sn 244 283 (o_load e_okR 0 284)) t_244_284
noncomputable def n_244_282 : e_Y := u_ald 0 (u_old (o_ald e_fcs 283) n_244_283) n_244_283
theorem t_244_282 : e_Sn 244 282 (e_un n_244_282) := u_aldT (s_iald hq_244 (by decide +kernel) rfl : e_Sn 244 282 (o_ald e_fcs 283)) t_244_283
noncomputable def n_244_281 : e_Y := u_bin a_iadd (u_old (o_iadd 282) n_244_282) n_244_282
theorem t_244_281 : e_Sn 244 281 (e_un n_244_281) := u_iaddT (s_iadd hq_244 (by decide +kernel) rfl : e_Sn 244 281 (o_iadd 282)) t_244_282
noncomputable def n_244_280 : e_Y := u_push (.inl 2147483649) n_244_281
theorem t_244_280 : e_Sn 244 280 (e_un n_244_280) := u_pushT (s_iconst (n := (1)) hq_244 (by decide +kernel) rfl ⟨by decide +kernel, by decide +kernel⟩ : e_Sn 244 280 (o_push (.inl 2147483649) 281)) t_244_281
noncomputable def n_244_278 : e_Y := u_ld f_okI f_l4 n_244_280
theorem t_244_278 : e_Sn 244 278 (e_un n_244_278) := u_ldIT f_l4_eq (s_iload (i := .iload 4) (len := 2) hq_244 (by decide +kernel) rfl (.inl ⟨rfl, rfl⟩) : e_Sn 244 278 (o_load e_okI 4 280)) t_244_280
noncomputable def n_244_277 : e_Y := u_ld f_okA f_l0 n_244_278
theorem t_244_277 : e_Sn 244 277 (e_un n_244_277) := u_ldAT f_l0_eq (s_aload (i := .aload_n 0) (len := 1) hq_244 (by decide +kernel) rfl (.inr ⟨0, rfl, rfl, rfl⟩) : e_Sn 244 277 (o_load e_okR 0 278)) t_244_278
noncomputable def n_244_276 : e_Y := u_ld f_okA f_l1 n_244_277
theorem t_244_276 : e_Sn 244 276 (e_un n_244_276) := u_ldAT f_l1_eq (s_aload (i := .aload_n 1) (len := 1) hq_244 (by decide +kernel) rfl (.inr ⟨1, rfl, rfl, rfl⟩) : e_Sn 244 276 (o_load e_okR 1 277)) t_244_277
noncomputable def n_244_273 : e_Y := n_244_2235
theorem t_244_273 : e_Sn 244 273 (e_un n_244_273) := u_gotoT (s_goto (off := (1962)) hq_244 (by decide +kernel) rfl : e_Sn 244 273 (o_goto 2235)) t_244_2235
noncomputable def n_244_268 : e_Y := u_if y_ne0 (u_old2 (o_ifeq 273 271) 273 n_244_273 (u_at 271)) n_244_273 (u_at 271)
theorem t_244_268 : e_Sn 244 268 (e_un n_244_268) := u_ifeqT rfl (s_ifeq (off := (5)) hq_244 (by decide +kernel) rfl rfl : e_Sn 244 268 (o_ifeq 273 271)) t_244_273 u_atT
noncomputable def n_244_267 : e_Y := u_old (o_lcmp 268) n_244_268
theorem t_244_267 : e_Sn 244 267 (e_un n_244_267) := u_oldT (s_lcmp hq_244 (by decide +kernel) rfl : e_Sn 244 267 (o_lcmp 268)) t_244_268 e_cg_lcmp
noncomputable def n_244_266 : e_Y := u_old (o_i2l 267) n_244_267
theorem t_244_266 : e_Sn 244 266 (e_un n_244_266) := u_oldT (s_i2l hq_244 (by decide +kernel) rfl : e_Sn 244 266 (o_i2l 267)) t_244_267 e_congr_i2l
noncomputable def n_244_264 : e_Y := u_ld f_okI f_l6 n_244_266
theorem t_244_264 : e_Sn 244 264 (e_un n_244_264) := u_ldIT f_l6_eq (s_iload (i := .iload 6) (len := 2) hq_244 (by decide +kernel) rfl (.inl ⟨rfl, rfl⟩) : e_Sn 244 264 (o_load e_okI 6 266)) t_244_266
noncomputable def n_244_263 : e_Y := u_ald 2 (u_old (o_aldO 2 264) n_244_264) n_244_264
theorem t_244_263 : e_Sn 244 263 (e_un n_244_263) := u_aldOT (s_lald hq_244 (by decide +kernel) rfl : e_Sn 244 263 (o_aldO 2 264)) t_244_264
noncomputable def n_244_262 : e_Y := u_push (.inl 2147483648) n_244_263
theorem t_244_262 : e_Sn 244 262 (e_un n_244_262) := u_pushT (s_iconst (n := (0)) hq_244 (by decide +kernel) rfl ⟨by decide +kernel, by decide +kernel⟩ : e_Sn 244 262 (o_push (.inl 2147483648) 263)) t_244_263
noncomputable def n_244_261 : e_Y := u_ld f_okA f_l3 n_244_262
theorem t_244_261 : e_Sn 244 261 (e_un n_244_261) := u_ldAT f_l3_eq (s_aload (i := .aload_n 3) (len := 1) hq_244 (by decide +kernel) rfl (.inr ⟨3, rfl, rfl, rfl⟩) : e_Sn 244 261 (o_load e_okR 3 262)) t_244_262
noncomputable def n_244_258 : e_Y := u_if y_ne0 (u_old2 (o_ifeq 261 273) 261 n_244_261 n_244_273) n_244_261 n_244_273
theorem t_244_258 : e_Sn 244 258 (e_un n_244_258) := u_ifeqT rfl (s_ifne (off := (15)) hq_244 (by decide +kernel) rfl rfl : e_Sn 244 258 (o_ifeq 261 273)) t_244_261 t_244_273
noncomputable def n_244_256 : e_Y := u_ld f_okI f_l5 n_244_258
theorem t_244_256 : e_Sn 244 256 (e_un n_244_256) := u_ldIT f_l5_eq (s_iload (i := .iload 5) (len := 2) hq_244 (by decide +kernel) rfl (.inl ⟨rfl, rfl⟩) : e_Sn 244 256 (o_load e_okI 5 258)) t_244_258
noncomputable def n_244_251 : e_Y := u_jmp y_ne (u_old2 (o_ceq 256 254) 256 n_244_256 (u_at 254)) n_244_256 (u_at 254)
theorem t_244_251 : e_Sn 244 251 (e_un n_244_251) := u_ceqT rfl (s_ceq (off := (5)) hq_244 (by decide +kernel) rfl rfl : e_Sn 244 251 (o_ceq 256 254)) t_244_256 u_atT
noncomputable def n_244_249 : e_Y := u_ld f_okI f_l5 n_244_251
theorem t_244_249 : e_Sn 244 249 (e_un n_244_249) := u_ldIT f_l5_eq (s_iload (i := .iload 5) (len := 2) hq_244 (by decide +kernel) rfl (.inl ⟨rfl, rfl⟩) : e_Sn 244 249 (o_load e_okI 5 251)) t_244_251
noncomputable def n_244_246 : e_Y := u_callV 12 199 1 20 1 n_199_0 n_244_249
theorem t_244_246 : e_Sn 244 246 (e_un n_244_246) := u_callVT rfl (s_callV (ci := 12) (C := er_12) (T := et_12) (N := 5) (index := 117) hq_244 ho_244 hy_199 hp_199 hc_199 hi_199 hd_199 (List.mem_of_getElem? (i := 1974) (by decide +kernel)) hs_199 (List.mem_of_getElem? (i := 1976) (by decide +kernel)) rfl (by decide +kernel) rfl : e_Sn 244 246 (o_callV (e_s1 12 199 1) 1 249)) t_199_0 t_244_249
noncomputable def n_244_245 : e_Y := u_ld f_okA f_l2 n_244_246
theorem t_244_245 : e_Sn 244 245 (e_un n_244_245) := u_ldAT f_l2_eq (s_aload (i := .aload_n 2) (len := 1) hq_244 (by decide +kernel) rfl (.inr ⟨2, rfl, rfl, rfl⟩) : e_Sn 244 245 (o_load e_okR 2 246)) t_244_246
noncomputable def n_244_243 : e_Y := u_st f_okI f_s6 n_244_245
theorem t_244_243 : e_Sn 244 243 (e_un n_244_243) := u_stIT (fun _ _ _ => f_s6_eq) (s_istore (i := .istore 6) (len := 2) hq_244 (by decide +kernel) rfl (.inl ⟨rfl, rfl⟩) : e_Sn 244 243 (o_store e_okI 6 245)) t_244_245
noncomputable def n_244_240 : e_Y := u_callV 12 200 3 22 3 n_200_0 n_244_243
theorem t_244_240 : e_Sn 244 240 (e_un n_244_240) := u_callVT rfl (s_callV (ci := 12) (C := er_12) (T := et_12) (N := 5) (index := 116) hq_244 ho_244 hy_200 hp_200 hc_200 hi_200 hd_200 (List.mem_of_getElem? (i := 1978) (by decide +kernel)) hs_200 (List.mem_of_getElem? (i := 1980) (by decide +kernel)) rfl (by decide +kernel) rfl : e_Sn 244 240 (o_callV (e_s1 12 200 3) 3 243)) t_200_0 t_244_243
noncomputable def n_244_239 : e_Y := u_ald 0 (u_old (o_ald e_fcs 240) n_244_240) n_244_240
theorem t_244_239 : e_Sn 244 239 (e_un n_244_239) := u_aldT (s_iald hq_244 (by decide +kernel) rfl : e_Sn 244 239 (o_ald e_fcs 240)) t_244_240
noncomputable def n_244_238 : e_Y := u_bin a_iadd (u_old (o_iadd 239) n_244_239) n_244_239
theorem t_244_238 : e_Sn 244 238 (e_un n_244_238) := u_iaddT (s_iadd hq_244 (by decide +kernel) rfl : e_Sn 244 238 (o_iadd 239)) t_244_239
noncomputable def n_244_237 : e_Y := u_push (.inl 2147483650) n_244_238
theorem t_244_237 : e_Sn 244 237 (e_un n_244_237) := u_pushT (s_iconst (n := (2)) hq_244 (by decide +kernel) rfl ⟨by decide +kernel, by decide +kernel⟩ : e_Sn 244 237 (o_push (.inl 2147483650) 238)) t_244_238
noncomputable def n_244_235 : e_Y := u_ld f_okI f_l4 n_244_237
theorem t_244_235 : e_Sn 244 235 (e_un n_244_235) := u_ldIT f_l4_eq (s_iload (i := .iload 4) (len := 2) hq_244 (by decide +kernel) rfl (.inl ⟨rfl, rfl⟩) : e_Sn 244 235 (o_load e_okI 4 237)) t_244_237
noncomputable def n_244_234 : e_Y := u_ld f_okA f_l0 n_244_235
theorem t_244_234 : e_Sn 244 234 (e_un n_244_234) := u_ldAT f_l0_eq (s_aload (i := .aload_n 0) (len := 1) hq_244 (by decide +kernel) rfl (.inr ⟨0, rfl, rfl, rfl⟩) : e_Sn 244 234 (o_load e_okR 0 235)) t_244_235
noncomputable def n_244_233 : e_Y := u_ald 0 (u_old (o_ald e_fcs 234) n_244_234) n_244_234
theorem t_244_233 : e_Sn 244 233 (e_un n_244_233) := u_aldT (s_iald hq_244 (by decide +kernel) rfl : e_Sn 244 233 (o_ald e_fcs 234)) t_244_234
noncomputable def n_244_232 : e_Y := u_bin a_iadd (u_old (o_iadd 233) n_244_233) n_244_233
theorem t_244_232 : e_Sn 244 232 (e_un n_244_232) := u_iaddT (s_iadd hq_244 (by decide +kernel) rfl : e_Sn 244 232 (o_iadd 233)) t_244_233
noncomputable def n_244_231 : e_Y := u_push (.inl 2147483649) n_244_232
theorem t_244_231 : e_Sn 244 231 (e_un n_244_231) := u_pushT (s_iconst (n := (1)) hq_244 (by decide +kernel) rfl ⟨by decide +kernel, by decide +kernel⟩ : e_Sn 244 231 (o_push (.inl 2147483649) 232)) t_244_232
noncomputable def n_244_229 : e_Y := u_ld f_okI f_l4 n_244_231
theorem t_244_229 : e_Sn 244 229 (e_un n_244_229) := u_ldIT f_l4_eq (s_iload (i := .iload 4) (len := 2) hq_244 (by decide +kernel) rfl (.inl ⟨rfl, rfl⟩) : e_Sn 244 229 (o_load e_okI 4 231)) t_244_231
noncomputable def n_244_228 : e_Y := u_ld f_okA f_l0 n_244_229
theorem t_244_228 : e_Sn 244 228 (e_un n_244_228) := u_ldAT f_l0_eq (s_aload (i := .aload_n 0) (len := 1) hq_244 (by decide +kernel) rfl (.inr ⟨0, rfl, rfl, rfl⟩) : e_Sn 244 228 (o_load e_okR 0 229)) t_244_229
noncomputable def n_244_227 : e_Y := u_ld f_okA f_l2 n_244_228
theorem t_244_227 : e_Sn 244 227 (e_un n_244_227) := u_ldAT f_l2_eq (s_aload (i := .aload_n 2) (len := 1) hq_244 (by decide +kernel) rfl (.inr ⟨2, rfl, rfl, rfl⟩) : e_Sn 244 227 (o_load e_okR 2 228)) t_244_228
noncomputable def n_244_225 : e_Y := u_st f_okI f_s5 n_244_227
theorem t_244_225 : e_Sn 244 225 (e_un n_244_225) := u_stIT (fun _ _ _ => f_s5_eq) (s_istore (i := .istore 5) (len := 2) hq_244 (by decide +kernel) rfl (.inl ⟨rfl, rfl⟩) : e_Sn 244 225 (o_store e_okI 5 227)) t_244_227
noncomputable def n_244_222 : e_Y := u_callS 130 5 24 4 n_130_0 n_244_225
theorem t_244_222 : e_Sn 244 222 (e_un n_244_222) := u_callST rfl (s_callSW (index := 111) hq_244 ho_244 hy_130 hp_130 hc_130 hi_130 hd_130 (List.mem_of_getElem? (i := 1561) (by decide +kernel)) hs_130 (by decide +kernel) rfl : e_Sn 244 222 (o_callS 130 5 4 225)) t_130_0 t_244_225
noncomputable def n_244_221 : e_Y := u_ld f_okA f_l3 n_244_222
theorem t_244_221 : e_Sn 244 221 (e_un n_244_221) := u_ldAT f_l3_eq (s_aload (i := .aload_n 3) (len := 1) hq_244 (by decide +kernel) rfl (.inr ⟨3, rfl, rfl, rfl⟩) : e_Sn 244 221 (o_load e_okR 3 222)) t_244_222
noncomputable def n_244_220 : e_Y := u_ald 0 (u_old (o_ald e_fcs 221) n_244_221) n_244_221
theorem t_244_220 : e_Sn 244 220 (e_un n_244_220) := u_aldT (s_iald hq_244 (by decide +kernel) rfl : e_Sn 244 220 (o_ald e_fcs 221)) t_244_221
noncomputable def n_244_219 : e_Y := u_bin a_iadd (u_old (o_iadd 220) n_244_220) n_244_220
theorem t_244_219 : e_Sn 244 219 (e_un n_244_219) := u_iaddT (s_iadd hq_244 (by decide +kernel) rfl : e_Sn 244 219 (o_iadd 220)) t_244_220
noncomputable def n_244_218 : e_Y := u_push (.inl 2147483650) n_244_219
theorem t_244_218 : e_Sn 244 218 (e_un n_244_218) := u_pushT (s_iconst (n := (2)) hq_244 (by decide +kernel) rfl ⟨by decide +kernel, by decide +kernel⟩ : e_Sn 244 218 (o_push (.inl 2147483650) 219)) t_244_219
noncomputable def n_244_216 : e_Y := u_ld f_okI f_l4 n_244_218
theorem t_244_216 : e_Sn 244 216 (e_un n_244_216) := u_ldIT f_l4_eq (s_iload (i := .iload 4) (len := 2) hq_244 (by decide +kernel) rfl (.inl ⟨rfl, rfl⟩) : e_Sn 244 216 (o_load e_okI 4 218)) t_244_218
noncomputable def n_244_215 : e_Y := u_ld f_okA f_l0 n_244_216
theorem t_244_215 : e_Sn 244 215 (e_un n_244_215) := u_ldAT f_l0_eq (s_aload (i := .aload_n 0) (len := 1) hq_244 (by decide +kernel) rfl (.inr ⟨0, rfl, rfl, rfl⟩) : e_Sn 244 215 (o_load e_okR 0 216)) t_244_216
noncomputable def n_244_214 : e_Y := u_ald 0 (u_old (o_ald e_fcs 215) n_244_215) n_244_215
theorem t_244_214 : e_Sn 244 214 (e_un n_244_214) := u_aldT (s_iald hq_244 (by decide +kernel) rfl : e_Sn 244 214 (o_ald e_fcs 215)) t_244_215
noncomputable def n_244_213 : e_Y := u_bin a_iadd (u_old (o_iadd 214) n_244_214) n_244_214
theorem t_244_213 : e_Sn 244 213 (e_un n_244_213) := u_iaddT (s_iadd hq_244 (by decide +kernel) rfl : e_Sn 244 213 (o_iadd 214)) t_244_214
noncomputable def n_244_212 : e_Y := u_push (.inl 2147483649) n_244_213
theorem t_244_212 : e_Sn 244 212 (e_un n_244_212) := u_pushT (s_iconst (n := (1)) hq_244 (by decide +kernel) rfl ⟨by decide +kernel, by decide +kernel⟩ : e_Sn 244 212 (o_push (.inl 2147483649) 213)) t_244_213
noncomputable def n_244_210 : e_Y := u_ld f_okI f_l4 n_244_212
theorem t_244_210 : e_Sn 244 210 (e_un n_244_210) := u_ldIT f_l4_eq (s_iload (i := .iload 4) (len := 2) hq_244 (by decide +kernel) rfl (.inl ⟨rfl, rfl⟩) : e_Sn 244 210 (o_load e_okI 4 212)) t_244_212
noncomputable def n_244_209 : e_Y := u_ld f_okA f_l0 n_244_210
theorem t_244_209 : e_Sn 244 209 (e_un n_244_209) := u_ldAT f_l0_eq (s_aload (i := .aload_n 0) (len := 1) hq_244 (by decide +kernel) rfl (.inr ⟨0, rfl, rfl, rfl⟩) : e_Sn 244 209 (o_load e_okR 0 210)) t_244_210
noncomputable def n_244_208 : e_Y := u_ld f_okA f_l1 n_244_209
theorem t_244_208 : e_Sn 244 208 (e_un n_244_208) := u_ldAT f_l1_eq (s_aload (i := .aload_n 1) (len := 1) hq_244 (by decide +kernel) rfl (.inr ⟨1, rfl, rfl, rfl⟩) : e_Sn 244 208 (o_load e_okR 1 209)) t_244_209
noncomputable def n_244_40 : e_Y := u_tab (o_switch 2147483648 [208, 276, 394, 438, 451, 464, 477, 490, 503, 571, 627, 640, 708, 776, 832, 888, 944, 1012, 1080, 1160, 1228, 1315, 1371, 1451, 1464, 1556, 1569, 1637, 1705, 1773, 1841, 1897, 1960, 2016, 2084, 2140, 2208, 2221] 2235)
theorem t_244_40 : e_Sn 244 40 (e_un n_244_40) := u_tabT (s_switch (dflt := (2195)) (low := (0)) (hi := (37)) (offs := #[(168), (236), (354), (398), (411), (424), (437), (450), (463), (531), (587), (600), (668), (736), (792), (848), (904), (972), (1040), (1120), (1188), (1275), (1331), (1411), (1424), (1516), (1529), (1597), (1665), (1733), (1801), (1857), (1920), (1976), (2044), (2100), (2168), (2181)]) (len := 168) hq_244 (by decide +kernel) rfl rfl rfl rfl : e_Sn 244 40 (o_switch 2147483648 [208, 276, 394, 438, 451, 464, 477, 490, 503, 571, 627, 640, 708, 776, 832, 888, 944, 1012, 1080, 1160, 1228, 1315, 1371, 1451, 1464, 1556, 1569, 1637, 1705, 1773, 1841, 1897, 1960, 2016, 2084, 2140, 2208, 2221] 2235))
noncomputable def n_244_39 : e_Y := u_bin a_iand (u_old (o_bin Nat.land 40) n_244_40) n_244_40
theorem t_244_39 : e_Sn 244 39 (e_un n_244_39) := u_iandT (s_iand hq_244 (by decide +kernel) rfl : e_Sn 244 39 (o_bin Nat.land 40)) t_244_40
noncomputable def n_244_37 : e_Y := u_push (.inl 2147483711) n_244_39
theorem t_244_37 : e_Sn 244 37 (e_un n_244_37) := u_pushT (s_bipush (n := (63)) hq_244 (by decide +kernel) rfl ⟨by decide +kernel, by decide +kernel⟩ : e_Sn 244 37 (o_push (.inl 2147483711) 39)) t_244_39
noncomputable def n_244_36 : e_Y := u_tab (o_stop)
theorem t_244_36 : e_Sn 244 36 (e_un n_244_36) := u_tabT (s_stop rfl : e_Sn 244 36 (o_stop))
noncomputable def n_244_34 : e_Y := u_ld f_okI f_l4 n_244_36
theorem t_244_34 : e_Sn 244 34 (e_un n_244_34) := u_ldIT f_l4_eq (s_iload (i := .iload 4) (len := 2) hq_244 (by decide +kernel) rfl (.inl ⟨rfl, rfl⟩) : e_Sn 244 34 (o_load e_okI 4 36)) t_244_36
noncomputable def n_244_33 : e_Y := u_ld f_okA f_l0 n_244_34
theorem t_244_33 : e_Sn 244 33 (e_un n_244_33) := u_ldAT f_l0_eq (s_aload (i := .aload_n 0) (len := 1) hq_244 (by decide +kernel) rfl (.inr ⟨0, rfl, rfl, rfl⟩) : e_Sn 244 33 (o_load e_okR 0 34)) t_244_34
noncomputable def n_244_30 : e_Y := u_jmp y_le (u_old2 (o_cgt 2241 33) 2241 n_244_2241 n_244_33) n_244_2241 n_244_33
theorem t_244_30 : e_Sn 244 30 (e_un n_244_30) := u_cgtT rfl (s_cgt (off := (2211)) hq_244 (by decide +kernel) rfl rfl : e_Sn 244 30 (o_cgt 2241 33)) t_244_2241 t_244_33
noncomputable def n_244_29 : e_Y := u_bin a_isub (u_old (o_isub 30) n_244_30) n_244_30
theorem t_244_29 : e_Sn 244 29 (e_un n_244_29) := u_isubT (s_isub hq_244 (by decide +kernel) rfl : e_Sn 244 29 (o_isub 30)) t_244_30
noncomputable def n_244_27 : e_Y := u_push (.inl 2147483655) n_244_29
theorem t_244_27 : e_Sn 244 27 (e_un n_244_27) := u_pushT (s_bipush (n := (7)) hq_244 (by decide +kernel) rfl ⟨by decide +kernel, by decide +kernel⟩ : e_Sn 244 27 (o_push (.inl 2147483655) 29)) t_244_29
noncomputable def n_244_26 : e_Y := u_old (o_alen e_fcs 27) n_244_27
theorem t_244_26 : e_Sn 244 26 (e_un n_244_26) := u_oldT (s_alen hq_244 (by decide +kernel) rfl : e_Sn 244 26 (o_alen e_fcs 27)) t_244_27 (e_cg_alen e_fcs)
noncomputable def n_244_25 : e_Y := u_ld f_okA f_l0 n_244_26
theorem t_244_25 : e_Sn 244 25 (e_un n_244_25) := u_ldAT f_l0_eq (s_aload (i := .aload_n 0) (len := 1) hq_244 (by decide +kernel) rfl (.inr ⟨0, rfl, rfl, rfl⟩) : e_Sn 244 25 (o_load e_okR 0 26)) t_244_26
noncomputable def n_244_23 : e_Y := u_ld f_okI f_l4 n_244_25
theorem t_244_23 : e_Sn 244 23 (e_un n_244_23) := u_ldIT f_l4_eq (s_iload (i := .iload 4) (len := 2) hq_244 (by decide +kernel) rfl (.inl ⟨rfl, rfl⟩) : e_Sn 244 23 (o_load e_okI 4 25)) t_244_25
noncomputable def n_244_21 : e_Y := u_st f_okI f_s4 n_244_23
theorem t_244_21 : e_Sn 244 21 (e_un n_244_21) := u_stIT (fun _ _ _ => f_s4_eq) (s_istore (i := .istore 4) (len := 2) hq_244 (by decide +kernel) rfl (.inl ⟨rfl, rfl⟩) : e_Sn 244 21 (o_store e_okI 4 23)) t_244_23
noncomputable def n_244_20 : e_Y := u_push (.inl 2147483648) n_244_21
theorem t_244_20 : e_Sn 244 20 (e_un n_244_20) := u_pushT (s_iconst (n := (0)) hq_244 (by decide +kernel) rfl ⟨by decide +kernel, by decide +kernel⟩ : e_Sn 244 20 (o_push (.inl 2147483648) 21)) t_244_21
noncomputable def n_244_19 : e_Y := u_st f_okA f_s3 n_244_20
theorem t_244_19 : e_Sn 244 19 (e_un n_244_19) := u_stAT (fun _ _ _ => f_s3_eq) (s_astore (i := .astore_n 3) (len := 1) hq_244 (by decide +kernel) rfl (.inr ⟨3, rfl, rfl, rfl⟩) : e_Sn 244 19 (o_store e_okR 3 20)) t_244_20
noncomputable def n_244_17 : e_Y := u_tab (o_newa 2 (e_L 9223372036854775808) 19)
theorem t_244_17 : e_Sn 244 17 (e_un n_244_17) := u_tabT (s_newJ (List.mem_of_getElem? (i := 279) (by decide +kernel)) hq_244 (by decide +kernel) rfl : e_Sn 244 17 (o_newa 2 (e_L 9223372036854775808) 19))
noncomputable def n_244_16 : e_Y := u_push (.inl 2147483649) n_244_17
theorem t_244_16 : e_Sn 244 16 (e_un n_244_16) := u_pushT (s_iconst (n := (1)) hq_244 (by decide +kernel) rfl ⟨by decide +kernel, by decide +kernel⟩ : e_Sn 244 16 (o_push (.inl 2147483649) 17)) t_244_17
noncomputable def n_244_15 : e_Y := u_st f_okA f_s2 n_244_16
theorem t_244_15 : e_Sn 244 15 (e_un n_244_15) := u_stAT (fun _ _ _ => f_s2_eq) (s_astore (i := .astore_n 2) (len := 1) hq_244 (by decide +kernel) rfl (.inr ⟨2, rfl, rfl, rfl⟩) : e_Sn 244 15 (o_store e_okR 2 16)) t_244_16
noncomputable def n_244_12 : e_Y := u_tab (o_callI 132 1 1 15)
theorem t_244_12 : e_Sn 244 12 (e_un n_244_12) := u_tabT (s_callI (index := 110) hq_244 ho_244 hy_132 hp_132 hc_132 hi_132 hd_132 (List.mem_of_getElem? (i := 1740) (by decide +kernel)) rfl rfl hs_132 (by decide +kernel) rfl : e_Sn 244 12 (o_callI 132 1 1 15))
noncomputable def n_244_11 : e_Y := u_old (o_dup 12) n_244_12
theorem t_244_11 : e_Sn 244 11 (e_un n_244_11) := u_oldT (s_dup hq_244 (by decide +kernel) rfl : e_Sn 244 11 (o_dup 12)) t_244_12 e_cg_dup
noncomputable def n_244_8 : e_Y := u_tab (o_new 12 5 ef_12 11)
theorem t_244_8 : e_Sn 244 8 (e_un n_244_8) := u_tabT (s_new (index := 108) (ci := 12) (N := 5) (C := er_12) (T := et_12) (ty0 := ey_12) (fv := eg_12) hq_244 ho_244 rfl ei_12 eo_12 (List.mem_of_getElem? (i := 1738) (by decide +kernel)) (List.mem_of_getElem? (i := 1739) (by decide +kernel)) (List.mem_of_getElem? (i := 151) (by decide +kernel)) eh_12 rfl (e_newrel ek_12) (by decide +kernel) rfl : e_Sn 244 8 (o_new 12 5 ef_12 11))
noncomputable def n_244_7 : e_Y := u_st f_okA f_s1 n_244_8
theorem t_244_7 : e_Sn 244 7 (e_un n_244_7) := u_stAT (fun _ _ _ => f_s1_eq) (s_astore (i := .astore_n 1) (len := 1) hq_244 (by decide +kernel) rfl (.inr ⟨1, rfl, rfl, rfl⟩) : e_Sn 244 7 (o_store e_okR 1 8)) t_244_8
noncomputable def n_244_4 : e_Y := u_tab (o_callI 0 1 1 7)
theorem t_244_4 : e_Sn 244 4 (e_un n_244_4) := u_tabT (s_callI (index := 107) hq_244 ho_244 hy_0 hp_0 hc_0 hi_0 hd_0 (List.mem_of_getElem? (i := 186) (by decide +kernel)) rfl rfl hs_0 (by decide +kernel) rfl : e_Sn 244 4 (o_callI 0 1 1 7))
noncomputable def n_244_3 : e_Y := u_old (o_dup 4) n_244_4
theorem t_244_3 : e_Sn 244 3 (e_un n_244_3) := u_oldT (s_dup hq_244 (by decide +kernel) rfl : e_Sn 244 3 (o_dup 4)) t_244_4 e_cg_dup
noncomputable def n_244_0 : e_Y := u_tab (o_new 0 17 ef_0 3)
theorem t_244_0 : e_Sn 244 0 (e_un n_244_0) := u_tabT (s_new (index := 8) (ci := 0) (N := 17) (C := er_0) (T := et_0) (ty0 := ey_0) (fv := eg_0) hq_244 ho_244 rfl ei_0 eo_0 (List.mem_of_getElem? (i := 184) (by decide +kernel)) (List.mem_of_getElem? (i := 185) (by decide +kernel)) (List.mem_of_getElem? (i := 138) (by decide +kernel)) eh_0 rfl (e_newrel ek_0) (by decide +kernel) rfl : e_Sn 244 0 (o_new 0 17 ef_0 3))
noncomputable def e_tb_244 : e_X := (e_br 888 (e_br 438 (e_br 19 (e_br 7 (e_br 3 (e_lf 0 (e_un n_244_0)) (e_lf 3 (e_un n_244_3))) (e_br 11 (e_lf 7 (e_un n_244_7)) (e_br 15 (e_lf 11 (e_un n_244_11)) (e_lf 15 (e_un n_244_15))))) (e_br 208 (e_br 23 (e_lf 19 (e_un n_244_19)) (e_br 40 (e_lf 23 (e_un n_244_23)) (e_lf 40 (e_un n_244_40)))) (e_br 276 (e_lf 208 (e_un n_244_208)) (e_br 394 (e_lf 276 (e_un n_244_276)) (e_lf 394 (e_un n_244_394)))))) (e_br 571 (e_br 477 (e_br 451 (e_lf 438 (e_un n_244_438)) (e_br 464 (e_lf 451 (e_un n_244_451)) (e_lf 464 (e_un n_244_464)))) (e_br 490 (e_lf 477 (e_un n_244_477)) (e_br 503 (e_lf 490 (e_un n_244_490)) (e_lf 503 (e_un n_244_503))))) (e_br 708 (e_br 627 (e_lf 571 (e_un n_244_571)) (e_br 640 (e_lf 627 (e_un n_244_627)) (e_lf 640 (e_un n_244_640)))) (e_br 776 (e_lf 708 (e_un n_244_708)) (e_br 832 (e_lf 776 (e_un n_244_776)) (e_lf 832 (e_un n_244_832))))))) (e_br 1637 (e_br 1315 (e_br 1080 (e_br 944 (e_lf 888 (e_un n_244_888)) (e_br 1012 (e_lf 944 (e_un n_244_944)) (e_lf 1012 (e_un n_244_1012)))) (e_br 1160 (e_lf 1080 (e_un n_244_1080)) (e_br 1228 (e_lf 1160 (e_un n_244_1160)) (e_lf 1228 (e_un n_244_1228))))) (e_br 1464 (e_br 1371 (e_lf 1315 (e_un n_244_1315)) (e_br 1451 (e_lf 1371 (e_un n_244_1371)) (e_lf 1451 (e_un n_244_1451)))) (e_br 1556 (e_lf 1464 (e_un n_244_1464)) (e_br 1569 (e_lf 1556 (e_un n_244_1556)) (e_lf 1569 (e_un n_244_1569)))))) (e_br 2016 (e_br 1841 (e_br 1705 (e_lf 1637 (e_un n_244_1637)) (e_br 1773 (e_lf 1705 (e_un n_244_1705)) (e_lf 1773 (e_un n_244_1773)))) (e_br 1897 (e_lf 1841 (e_un n_244_1841)) (e_br 1960 (e_lf 1897 (e_un n_244_1897)) (e_lf 1960 (e_un n_244_1960))))) (e_br 2208 (e_br 2084 (e_lf 2016 (e_un n_244_2016)) (e_br 2140 (e_lf 2084 (e_un n_244_2084)) (e_lf 2140 (e_un n_244_2140)))) (e_br 2221 (e_lf 2208 (e_un n_244_2208)) (e_br 2235 (e_lf 2221 (e_un n_244_2221)) (e_lf 2235 (e_un n_244_2235))))))))
theorem e_tk_244 : e_Tb 244 e_tb_244 := (e_brT (e_brT (e_brT (e_brT (e_brT (e_lfT t_244_0) (e_lfT t_244_3)) (e_brT (e_lfT t_244_7) (e_brT (e_lfT t_244_11) (e_lfT t_244_15)))) (e_brT (e_brT (e_lfT t_244_19) (e_brT (e_lfT t_244_23) (e_lfT t_244_40))) (e_brT (e_lfT t_244_208) (e_brT (e_lfT t_244_276) (e_lfT t_244_394))))) (e_brT (e_brT (e_brT (e_lfT t_244_438) (e_brT (e_lfT t_244_451) (e_lfT t_244_464))) (e_brT (e_lfT t_244_477) (e_brT (e_lfT t_244_490) (e_lfT t_244_503)))) (e_brT (e_brT (e_lfT t_244_571) (e_brT (e_lfT t_244_627) (e_lfT t_244_640))) (e_brT (e_lfT t_244_708) (e_brT (e_lfT t_244_776) (e_lfT t_244_832)))))) (e_brT (e_brT (e_brT (e_brT (e_lfT t_244_888) (e_brT (e_lfT t_244_944) (e_lfT t_244_1012))) (e_brT (e_lfT t_244_1080) (e_brT (e_lfT t_244_1160) (e_lfT t_244_1228)))) (e_brT (e_brT (e_lfT t_244_1315) (e_brT (e_lfT t_244_1371) (e_lfT t_244_1451))) (e_brT (e_lfT t_244_1464) (e_brT (e_lfT t_244_1556) (e_lfT t_244_1569))))) (e_brT (e_brT (e_brT (e_lfT t_244_1637) (e_brT (e_lfT t_244_1705) (e_lfT t_244_1773))) (e_brT (e_lfT t_244_1841) (e_brT (e_lfT t_244_1897) (e_lfT t_244_1960)))) (e_brT (e_brT (e_lfT t_244_2016) (e_brT (e_lfT t_244_2084) (e_lfT t_244_2140))) (e_brT (e_lfT t_244_2208) (e_brT (e_lfT t_244_2221) (e_lfT t_244_2235)))))))
end SN
