/-! 79.00.look.lean.txt -/
section
/-! ===== the looker passes contracts 176 .. 197, one by one ===== -/
def at_dC : at_C := (0, [], [], none, false, [])
set_option maxRecDepth 1000000 in
theorem lk_t176 : at_chk [at_q175] [at_jt29] 4000 at_q176 = true := by decide +kernel
set_option maxRecDepth 1000000 in
theorem lk_t177 : at_chk [at_q175] [at_jt28] 4000 at_q177 = true := by decide +kernel
set_option maxRecDepth 1000000 in
theorem lk_t178 : at_chk [at_q173, at_q175, at_q176, at_q177] [] 4000 at_q178 = true := by decide +kernel
set_option maxRecDepth 1000000 in
theorem lk_t179 : at_chk [at_qm5] [at_jt30, at_jt31, at_jt32] 4000 at_q179 = true := by decide +kernel
set_option maxRecDepth 1000000 in
theorem lk_t180 : at_chk [at_q165] [] 4000 at_q180 = true := by decide +kernel
set_option maxRecDepth 1000000 in
theorem lk_t181 : at_chk [at_q165] [at_jt24] 4000 at_q181 = true := by decide +kernel
set_option maxRecDepth 1000000 in
theorem lk_t182 : at_chk [] [at_jt33] 4000 at_q182 = true := by decide +kernel
set_option maxRecDepth 1000000 in
theorem lk_t183 : at_chk [at_q165, at_q181, at_q182] [at_jt35, at_jt36] 4000 at_q183 = true := by decide +kernel
set_option maxRecDepth 1000000 in
theorem lk_t184 : at_chk [at_q180, at_q183] [at_jt37] 4000 at_q184 = true := by decide +kernel
set_option maxRecDepth 1000000 in
theorem lk_t185 : at_chk [at_q165, at_q170] [at_jt23] 4000 at_q185 = true := by decide +kernel
set_option maxRecDepth 1000000 in
theorem lk_t186 : at_chk [at_q170] [at_jt38] 4000 at_q186 = true := by decide +kernel
set_option maxRecDepth 1000000 in
theorem lk_t187 : at_chk [at_q165, at_q170, at_q173, at_q185, at_q186] [at_jt39, at_jt40] 4000 at_q187 = true := by decide +kernel
set_option maxRecDepth 1000000 in
theorem lk_t188 : at_chk [] [at_jt43] 4000 at_q188 = true := by decide +kernel
set_option maxRecDepth 1000000 in
theorem lk_t189 : at_chk [at_q165, at_q170] [at_jt42] 4000 at_q189 = true := by decide +kernel
set_option maxRecDepth 1000000 in
theorem lk_t190 : at_chk [at_q165, at_q181] [at_jt25] 4000 at_q190 = true := by decide +kernel
set_option maxRecDepth 1000000 in
theorem lk_t191 : at_chk [at_q189, at_q190] [] 4000 at_q191 = true := by decide +kernel
set_option maxRecDepth 1000000 in
theorem lk_t192 : at_chk [at_q172, at_q188, at_q189, at_q191] [at_jt44, at_jt45] 4000 at_q192 = true := by decide +kernel
set_option maxRecDepth 1000000 in
theorem lk_t193 : at_chk [] [at_jt46, at_jt47] 4000 at_q193 = true := by decide +kernel
set_option maxRecDepth 1000000 in
theorem lk_t194 : at_chk [at_q165, at_q193] [at_jt46] 4000 at_q194 = true := by decide +kernel
set_option maxRecDepth 1000000 in
theorem lk_t195 : at_chk [at_q165, at_q170, at_q185, at_q190, at_q194] [at_jt48, at_jt49] 4000 at_q195 = true := by decide +kernel
set_option maxRecDepth 1000000 in
theorem lk_t196 : at_chk [at_q165, at_q170] [at_jt41] 4000 at_q196 = true := by decide +kernel
set_option maxRecDepth 1000000 in
theorem lk_t197 : at_chk [at_q172, at_q185] [] 4000 at_q197 = true := by decide +kernel

end

/-! 79.01.look.lean.txt -/
section
/-! ===== the looker passes contracts 198 .. 219, one by one ===== -/
set_option maxRecDepth 1000000 in
theorem lk_t198 : at_chk [at_q197] [at_jt50] 4000 at_q198 = true := by decide +kernel
set_option maxRecDepth 1000000 in
theorem lk_t199 : at_chk [at_q174, at_q178, at_q179, at_q184, at_q187, at_q192, at_q195, at_q196, at_q198] [] 4000 at_q199 = true := by decide +kernel
set_option maxRecDepth 1000000 in
theorem lk_t200 : at_chk [at_q199] [at_jt52] 4000 at_q200 = true := by decide +kernel
set_option maxRecDepth 1000000 in
theorem lk_t201 : at_chk [at_qm4, at_q200] [] 4000 at_q201 = true := by decide +kernel
set_option maxRecDepth 1000000 in
theorem lk_t202 : at_chk [at_qm4] [] 4000 at_q202 = true := by decide +kernel
set_option maxRecDepth 1000000 in
theorem lk_t203 : at_chk [at_qm4] [] 4000 at_q203 = true := by decide +kernel
set_option maxRecDepth 1000000 in
theorem lk_t204 : at_chk [] [] 4000 at_q204 = true := by decide +kernel
set_option maxRecDepth 1000000 in
theorem lk_t205 : at_chk [at_qm4, at_q204] [] 4000 at_q205 = true := by decide +kernel
set_option maxRecDepth 1000000 in
theorem lk_t206 : at_chk [at_qm4] [] 4000 at_q206 = true := by decide +kernel
set_option maxRecDepth 1000000 in
theorem lk_t207 : at_chk [at_qm4] [] 4000 at_q207 = true := by decide +kernel
set_option maxRecDepth 1000000 in
theorem lk_t208 : at_chk [at_qm4, at_q165] [at_jt53] 4000 at_q208 = true := by decide +kernel
set_option maxRecDepth 1000000 in
theorem lk_t209 : at_chk [at_qm4] [] 4000 at_q209 = true := by decide +kernel
set_option maxRecDepth 1000000 in
theorem lk_t210 : at_chk [at_qm4] [] 4000 at_q210 = true := by decide +kernel
set_option maxRecDepth 1000000 in
theorem lk_t211 : at_chk [at_qm4] [] 4000 at_q211 = true := by decide +kernel
set_option maxRecDepth 1000000 in
theorem lk_t212 : at_chk [at_qm4] [] 4000 at_q212 = true := by decide +kernel
set_option maxRecDepth 1000000 in
theorem lk_t213 : at_chk [at_qm4] [at_jt54] 4000 at_q213 = true := by decide +kernel
set_option maxRecDepth 1000000 in
theorem lk_t214 : at_chk [at_qm4] [at_jt54] 4000 at_q214 = true := by decide +kernel
set_option maxRecDepth 1000000 in
theorem lk_t215 : at_chk [] [at_jt55] 4000 at_q215 = true := by decide +kernel
set_option maxRecDepth 1000000 in
theorem lk_t216 : at_chk [at_q199] [at_jt56, at_jt57] 4000 at_q216 = true := by decide +kernel
set_option maxRecDepth 1000000 in
theorem lk_t217 : at_chk [at_qm4, at_q215, at_q216] [] 4000 at_q217 = true := by decide +kernel
set_option maxRecDepth 1000000 in
theorem lk_t218 : at_chk [] [] 4000 at_q218 = true := by decide +kernel
set_option maxRecDepth 1000000 in
theorem lk_t219 : at_chk [at_q165, at_q170] [] 4000 at_q219 = true := by decide +kernel

end

/-! 79.02.look.lean.txt -/
section
/-! ===== the looker passes contracts 220 .. 241, one by one ===== -/
set_option maxRecDepth 1000000 in
theorem lk_t220 : at_chk [at_q219] [] 4000 at_q220 = true := by decide +kernel
set_option maxRecDepth 1000000 in
theorem lk_t221 : at_chk [] [] 4000 at_q221 = true := by decide +kernel
set_option maxRecDepth 1000000 in
theorem lk_t222 : at_chk [at_q165, at_q170] [at_jt58] 4000 at_q222 = true := by decide +kernel
set_option maxRecDepth 1000000 in
theorem lk_t223 : at_chk [] [] 4000 at_q223 = true := by decide +kernel
set_option maxRecDepth 1000000 in
theorem lk_t224 : at_chk [] [] 4000 at_q224 = true := by decide +kernel
set_option maxRecDepth 1000000 in
theorem lk_t225 : at_chk [] [] 4000 at_q225 = true := by decide +kernel
set_option maxRecDepth 1000000 in
theorem lk_t226 : at_chk [] [] 4000 at_q226 = true := by decide +kernel
set_option maxRecDepth 1000000 in
theorem lk_t227 : at_chk [at_q165, at_q170, at_q190] [at_jt59] 4000 at_q227 = true := by decide +kernel
set_option maxRecDepth 1000000 in
theorem lk_t228 : at_chk [at_q181] [] 4000 at_q228 = true := by decide +kernel
set_option maxRecDepth 1000000 in
theorem lk_t229 : at_chk [] [] 4000 at_q229 = true := by decide +kernel
set_option maxRecDepth 1000000 in
theorem lk_t230 : at_chk [at_q165, at_q170] [at_jt60] 4000 at_q230 = true := by decide +kernel
set_option maxRecDepth 1000000 in
theorem lk_t231 : at_chk [at_q165] [at_jt61] 4000 at_q231 = true := by decide +kernel
set_option maxRecDepth 1000000 in
theorem lk_t232 : at_chk [at_q170] [] 4000 at_q232 = true := by decide +kernel
set_option maxRecDepth 1000000 in
theorem lk_t233 : at_chk [at_q186] [] 4000 at_q233 = true := by decide +kernel
set_option maxRecDepth 1000000 in
theorem lk_t234 : at_chk [at_q177] [] 4000 at_q234 = true := by decide +kernel
set_option maxRecDepth 1000000 in
theorem lk_t235 : at_chk [at_q176] [] 4000 at_q235 = true := by decide +kernel
set_option maxRecDepth 1000000 in
theorem lk_t236 : at_chk [at_q190] [] 4000 at_q236 = true := by decide +kernel
set_option maxRecDepth 1000000 in
theorem lk_t237 : at_chk [] [] 4000 at_q237 = true := by decide +kernel
set_option maxRecDepth 1000000 in
theorem lk_t238 : at_chk [] [] 4000 at_q238 = true := by decide +kernel
set_option maxRecDepth 1000000 in
theorem lk_t239 : at_chk [] [] 4000 at_q239 = true := by decide +kernel
set_option maxRecDepth 1000000 in
theorem lk_t240 : at_chk [] [at_jt62] 4000 at_q240 = true := by decide +kernel
set_option maxRecDepth 1000000 in
theorem lk_t241 : at_chk [at_q165] [] 4000 at_q241 = true := by decide +kernel

end

/-! 79.03.look.lean.txt -/
section
/-! ===== the looker passes contracts 242 .. 263, one by one ===== -/
set_option maxRecDepth 1000000 in
theorem lk_t242 : at_chk [at_q165] [at_jt63, at_jt64] 4000 at_q242 = true := by decide +kernel
set_option maxRecDepth 1000000 in
theorem lk_t243 : at_chk [at_qm8, at_q165] [at_jt65] 4000 at_q243 = true := by decide +kernel
set_option maxRecDepth 1000000 in
theorem lk_t244 : at_chk [] [] 4000 at_q244 = true := by decide +kernel
set_option maxRecDepth 1000000 in
theorem lk_t245 : at_chk [] [at_jt66] 4000 at_q245 = true := by decide +kernel
set_option maxRecDepth 1000000 in
theorem lk_t246 : at_chk [] [at_jt66, at_jt67] 4000 at_q246 = true := by decide +kernel
set_option maxRecDepth 1000000 in
theorem lk_t247 : at_chk [] [at_jt68] 4000 at_q247 = true := by decide +kernel
set_option maxRecDepth 1000000 in
theorem lk_t248 : at_chk [] [at_jt69] 4000 at_q248 = true := by decide +kernel
set_option maxRecDepth 1000000 in
theorem lk_t249 : at_chk [at_q247, at_q248] [at_jt70] 4000 at_q249 = true := by decide +kernel
set_option maxRecDepth 1000000 in
theorem lk_t250 : at_chk [] [at_jt71] 4000 at_q250 = true := by decide +kernel
set_option maxRecDepth 1000000 in
theorem lk_t251 : at_chk [at_qm10, at_qm11, at_q197, at_q200] [] 4000 at_q251 = true := by decide +kernel
set_option maxRecDepth 1000000 in
theorem lk_t252 : at_chk [at_qm10, at_qm11, at_q200, at_q220] [] 4000 at_q252 = true := by decide +kernel
set_option maxRecDepth 1000000 in
theorem lk_t253 : at_chk [at_qm10, at_qm11, at_q197, at_q216] [] 4000 at_q253 = true := by decide +kernel
set_option maxRecDepth 1000000 in
theorem lk_t254 : at_chk [at_qm10, at_qm11, at_q199] [at_jt72] 4000 at_q254 = true := by decide +kernel
set_option maxRecDepth 1000000 in
theorem lk_t255 : at_chk [at_qm10, at_qm11, at_q199] [at_jt73, at_jt74] 4000 at_q255 = true := by decide +kernel
set_option maxRecDepth 1000000 in
theorem lk_t256 : at_chk [at_qm10, at_qm11, at_q199] [at_jt75] 4000 at_q256 = true := by decide +kernel
set_option maxRecDepth 1000000 in
theorem lk_t257 : at_chk [at_q256] [at_jt76] 4000 at_q257 = true := by decide +kernel
set_option maxRecDepth 1000000 in
theorem lk_t258 : at_chk [at_qm10, at_qm11, at_q199] [at_jt77] 4000 at_q258 = true := by decide +kernel
set_option maxRecDepth 1000000 in
theorem lk_t259 : at_chk [at_qm10, at_qm11, at_q190, at_q200] [at_jt78] 4000 at_q259 = true := by decide +kernel
set_option maxRecDepth 1000000 in
theorem lk_t260 : at_chk [] [at_jt79] 4000 at_q260 = true := by decide +kernel
set_option maxRecDepth 1000000 in
theorem lk_t261 : at_chk [at_qm10, at_qm11, at_q199, at_q260] [at_jt80] 4000 at_q261 = true := by decide +kernel
set_option maxRecDepth 1000000 in
theorem lk_t262 : at_chk [at_qm10, at_qm11, at_q190, at_q200] [at_jt81] 4000 at_q262 = true := by decide +kernel
set_option maxRecDepth 1000000 in
theorem lk_t263 : at_chk [] [] 4000 at_q263 = true := by decide +kernel

end

/-! 79.04.look.lean.txt -/
section
/-! ===== the looker passes contracts 0 .. 21, one by one ===== -/
set_option maxRecDepth 1000000 in
theorem lk_t0 : at_chk [] [at_jt83, at_jt86] 4000 at_q0 = true := by decide +kernel
set_option maxRecDepth 1000000 in
theorem lk_t1 : at_chk [] [] 4000 at_q1 = true := by decide +kernel
set_option maxRecDepth 1000000 in
theorem lk_t2 : at_chk [] [at_jt89] 4000 at_q2 = true := by decide +kernel
set_option maxRecDepth 1000000 in
theorem lk_t3 : at_chk [at_qm0, at_q0, at_q1, at_q2] [] 4000 at_q3 = true := by decide +kernel
set_option maxRecDepth 1000000 in
theorem lk_t4 : at_chk [at_qm0, at_q0, at_q1] [] 4000 at_q4 = true := by decide +kernel
set_option maxRecDepth 1000000 in
theorem lk_t5 : at_chk [at_qm0, at_q0] [] 4000 at_q5 = true := by decide +kernel
set_option maxRecDepth 1000000 in
theorem lk_t6 : at_chk [at_qm0, at_q0] [] 4000 at_q6 = true := by decide +kernel
set_option maxRecDepth 1000000 in
theorem lk_t7 : at_chk [] [at_jt91] 4000 at_q7 = true := by decide +kernel
set_option maxRecDepth 1000000 in
theorem lk_t8 : at_chk [] [at_jt105] 4000 at_q8 = true := by decide +kernel
set_option maxRecDepth 1000000 in
theorem lk_t9 : at_chk [at_q8] [] 4000 at_q9 = true := by decide +kernel
set_option maxRecDepth 1000000 in
theorem lk_t10 : at_chk [at_q7, at_q9] [] 4000 at_q10 = true := by decide +kernel
set_option maxRecDepth 1000000 in
theorem lk_t11 : at_chk [] [at_jt136] 4000 at_q11 = true := by decide +kernel
set_option maxRecDepth 1000000 in
theorem lk_t12 : at_chk [at_q11] [] 4000 at_q12 = true := by decide +kernel
set_option maxRecDepth 1000000 in
theorem lk_t13 : at_chk [at_q12] [at_jt103] 4000 at_q13 = true := by decide +kernel
set_option maxRecDepth 1000000 in
theorem lk_t14 : at_chk [at_q12, at_q13] [] 4000 at_q14 = true := by decide +kernel
set_option maxRecDepth 1000000 in
theorem lk_t15 : at_chk [at_q9, at_q12, at_q13, at_q14] [] 4000 at_q15 = true := by decide +kernel
set_option maxRecDepth 1000000 in
theorem lk_t16 : at_chk [] [] 4000 at_q16 = true := by decide +kernel
set_option maxRecDepth 1000000 in
theorem lk_t17 : at_chk [at_q1, at_q16] [] 4000 at_q17 = true := by decide +kernel
set_option maxRecDepth 1000000 in
theorem lk_t18 : at_chk [at_q17] [at_jt113, at_jt115] 4000 at_q18 = true := by decide +kernel
set_option maxRecDepth 1000000 in
theorem lk_t19 : at_chk [at_q1, at_q16] [] 4000 at_q19 = true := by decide +kernel
set_option maxRecDepth 1000000 in
theorem lk_t20 : at_chk [] [at_jt93] 4000 at_q20 = true := by decide +kernel
set_option maxRecDepth 1000000 in
theorem lk_t21 : at_chk [at_q1, at_q16] [] 4000 at_q21 = true := by decide +kernel

end

/-! 79.05.look.lean.txt -/
section
/-! ===== the looker passes contracts 22 .. 43, one by one ===== -/
set_option maxRecDepth 1000000 in
theorem lk_t22 : at_chk [] [at_jt123] 4000 at_q22 = true := by decide +kernel
set_option maxRecDepth 1000000 in
theorem lk_t23 : at_chk [at_q20, at_q21, at_q22] [at_jt119, at_jt121] 4000 at_q23 = true := by decide +kernel
set_option maxRecDepth 1000000 in
theorem lk_t24 : at_chk [at_q19, at_q23] [at_jt117] 4000 at_q24 = true := by decide +kernel
set_option maxRecDepth 1000000 in
theorem lk_t25 : at_chk [] [at_jt127] 4000 at_q25 = true := by decide +kernel
set_option maxRecDepth 1000000 in
theorem lk_t26 : at_chk [] [] 4000 at_q26 = true := by decide +kernel
set_option maxRecDepth 1000000 in
theorem lk_t27 : at_chk [] [at_jt21] 4000 at_q27 = true := by decide +kernel
set_option maxRecDepth 1000000 in
theorem lk_t28 : at_chk [at_q16, at_q27] [] 4000 at_q28 = true := by decide +kernel
set_option maxRecDepth 1000000 in
theorem lk_t29 : at_chk [at_q7, at_q9, at_q25, at_q26, at_q28] [at_jt125] 4000 at_q29 = true := by decide +kernel
set_option maxRecDepth 1000000 in
theorem lk_t30 : at_chk [] [at_jt129] 4000 at_q30 = true := by decide +kernel
set_option maxRecDepth 1000000 in
theorem lk_t31 : at_chk [] [] 4000 at_q31 = true := by decide +kernel
set_option maxRecDepth 1000000 in
theorem lk_t32 : at_chk [] [at_jt95] 4000 at_q32 = true := by decide +kernel
set_option maxRecDepth 1000000 in
theorem lk_t33 : at_chk [] [] 4000 at_q33 = true := by decide +kernel
set_option maxRecDepth 1000000 in
theorem lk_t34 : at_chk [] [] 4000 at_q34 = true := by decide +kernel
set_option maxRecDepth 1000000 in
theorem lk_t35 : at_chk [at_q8, at_q31, at_q32, at_q33, at_q34] [] 4000 at_q35 = true := by decide +kernel
set_option maxRecDepth 1000000 in
theorem lk_t36 : at_chk [] [at_jt141] 4000 at_q36 = true := by decide +kernel
set_option maxRecDepth 1000000 in
theorem lk_t37 : at_chk [] [at_jt139] 4000 at_q37 = true := by decide +kernel
set_option maxRecDepth 1000000 in
theorem lk_t38 : at_chk [at_q37] [] 4000 at_q38 = true := by decide +kernel
set_option maxRecDepth 1000000 in
theorem lk_t39 : at_chk [at_q38] [] 4000 at_q39 = true := by decide +kernel
set_option maxRecDepth 1000000 in
theorem lk_t40 : at_chk [at_q7, at_q32, at_q39] [at_jt131] 4000 at_q40 = true := by decide +kernel
set_option maxRecDepth 1000000 in
theorem lk_t41 : at_chk [at_q7, at_q8] [] 4000 at_q41 = true := by decide +kernel
set_option maxRecDepth 1000000 in
theorem lk_t42 : at_chk [at_q41] [at_jt133] 4000 at_q42 = true := by decide +kernel
set_option maxRecDepth 1000000 in
theorem lk_t43 : at_chk [at_q10, at_q15, at_q18, at_q24, at_q29, at_q30, at_q35, at_q36, at_q40, at_q42] [] 4000 at_q43 = true := by decide +kernel

end

/-! 79.06.look.lean.txt -/
section
/-! ===== the looker passes contracts 44 .. 65, one by one ===== -/
set_option maxRecDepth 1000000 in
theorem lk_t44 : at_chk [at_q43] [at_jt107] 4000 at_q44 = true := by decide +kernel
set_option maxRecDepth 1000000 in
theorem lk_t45 : at_chk [at_qm0, at_q0, at_q44] [] 4000 at_q45 = true := by decide +kernel
set_option maxRecDepth 1000000 in
theorem lk_t46 : at_chk [at_qm0, at_q0] [] 4000 at_q46 = true := by decide +kernel
set_option maxRecDepth 1000000 in
theorem lk_t47 : at_chk [at_qm0, at_q0] [] 4000 at_q47 = true := by decide +kernel
set_option maxRecDepth 1000000 in
theorem lk_t48 : at_chk [at_qm0, at_q0] [] 4000 at_q48 = true := by decide +kernel
set_option maxRecDepth 1000000 in
theorem lk_t49 : at_chk [at_qm0, at_q0] [] 4000 at_q49 = true := by decide +kernel
set_option maxRecDepth 1000000 in
theorem lk_t50 : at_chk [at_qm0, at_q0] [] 4000 at_q50 = true := by decide +kernel
set_option maxRecDepth 1000000 in
theorem lk_t51 : at_chk [at_qm0, at_q0] [] 4000 at_q51 = true := by decide +kernel
set_option maxRecDepth 1000000 in
theorem lk_t52 : at_chk [at_qm0, at_q0] [] 4000 at_q52 = true := by decide +kernel
set_option maxRecDepth 1000000 in
theorem lk_t53 : at_chk [] [at_jt90] 4000 at_q53 = true := by decide +kernel
set_option maxRecDepth 1000000 in
theorem lk_t54 : at_chk [at_qm0, at_q0, at_q53] [] 4000 at_q54 = true := by decide +kernel
set_option maxRecDepth 1000000 in
theorem lk_t55 : at_chk [at_qm0, at_q0] [] 4000 at_q55 = true := by decide +kernel
set_option maxRecDepth 1000000 in
theorem lk_t56 : at_chk [at_qm0, at_q0] [] 4000 at_q56 = true := by decide +kernel
set_option maxRecDepth 1000000 in
theorem lk_t57 : at_chk [at_qm0, at_q0] [] 4000 at_q57 = true := by decide +kernel
set_option maxRecDepth 1000000 in
theorem lk_t58 : at_chk [at_qm0, at_q0] [] 4000 at_q58 = true := by decide +kernel
set_option maxRecDepth 1000000 in
theorem lk_t59 : at_chk [] [at_jt138] 4000 at_q59 = true := by decide +kernel
set_option maxRecDepth 1000000 in
theorem lk_t60 : at_chk [at_q43] [at_jt109, at_jt111] 4000 at_q60 = true := by decide +kernel
set_option maxRecDepth 1000000 in
theorem lk_t61 : at_chk [at_qm0, at_q0, at_q59, at_q60] [] 4000 at_q61 = true := by decide +kernel
set_option maxRecDepth 1000000 in
theorem lk_t62 : at_chk [] [at_jt82, at_jt85] 4000 at_q62 = true := by decide +kernel
set_option maxRecDepth 1000000 in
theorem lk_t63 : at_chk [at_qm0, at_q62] [] 4000 at_q63 = true := by decide +kernel
set_option maxRecDepth 1000000 in
theorem lk_t64 : at_chk [] [at_jt83, at_jt86] 4000 at_q64 = true := by decide +kernel
set_option maxRecDepth 1000000 in
theorem lk_t65 : at_chk [at_qm0, at_q64] [at_jt34] 4000 at_q65 = true := by decide +kernel

end

/-! 79.07.look.lean.txt -/
section
/-! ===== the looker passes contracts 66 .. 87, one by one ===== -/
set_option maxRecDepth 1000000 in
theorem lk_t66 : at_chk [at_q0, at_q65] [] 4000 at_q66 = true := by decide +kernel
set_option maxRecDepth 1000000 in
theorem lk_t67 : at_chk [at_q62, at_q65] [] 4000 at_q67 = true := by decide +kernel
set_option maxRecDepth 1000000 in
theorem lk_t68 : at_chk [at_q41] [] 4000 at_q68 = true := by decide +kernel
set_option maxRecDepth 1000000 in
theorem lk_t69 : at_chk [] [] 4000 at_q69 = true := by decide +kernel
set_option maxRecDepth 1000000 in
theorem lk_t70 : at_chk [] [] 4000 at_q70 = true := by decide +kernel
set_option maxRecDepth 1000000 in
theorem lk_t71 : at_chk [] [] 4000 at_q71 = true := by decide +kernel
set_option maxRecDepth 1000000 in
theorem lk_t72 : at_chk [at_q32] [at_jt135] 4000 at_q72 = true := by decide +kernel
set_option maxRecDepth 1000000 in
theorem lk_t73 : at_chk [at_q72] [] 4000 at_q73 = true := by decide +kernel
set_option maxRecDepth 1000000 in
theorem lk_t74 : at_chk [] [] 4000 at_q74 = true := by decide +kernel
set_option maxRecDepth 1000000 in
theorem lk_t75 : at_chk [] [] 4000 at_q75 = true := by decide +kernel
set_option maxRecDepth 1000000 in
theorem lk_t76 : at_chk [] [] 4000 at_q76 = true := by decide +kernel
set_option maxRecDepth 1000000 in
theorem lk_t77 : at_chk [] [] 4000 at_q77 = true := by decide +kernel
set_option maxRecDepth 1000000 in
theorem lk_t78 : at_chk [] [] 4000 at_q78 = true := by decide +kernel
set_option maxRecDepth 1000000 in
theorem lk_t79 : at_chk [at_q32, at_q78] [at_jt0] 4000 at_q79 = true := by decide +kernel
set_option maxRecDepth 1000000 in
theorem lk_t80 : at_chk [at_q20] [] 4000 at_q80 = true := by decide +kernel
set_option maxRecDepth 1000000 in
theorem lk_t81 : at_chk [] [] 4000 at_q81 = true := by decide +kernel
set_option maxRecDepth 1000000 in
theorem lk_t82 : at_chk [] [] 4000 at_q82 = true := by decide +kernel
set_option maxRecDepth 1000000 in
theorem lk_t83 : at_chk [] [] 4000 at_q83 = true := by decide +kernel
set_option maxRecDepth 1000000 in
theorem lk_t84 : at_chk [] [at_jt101] 4000 at_q84 = true := by decide +kernel
set_option maxRecDepth 1000000 in
theorem lk_t85 : at_chk [at_q84] [at_jt100] 4000 at_q85 = true := by decide +kernel
set_option maxRecDepth 1000000 in
theorem lk_t86 : at_chk [at_q85] [] 4000 at_q86 = true := by decide +kernel
set_option maxRecDepth 1000000 in
theorem lk_t87 : at_chk [at_q85] [] 4000 at_q87 = true := by decide +kernel

end

/-! 79.08.look.lean.txt -/
section
/-! ===== the looker passes contracts 88 .. 109, one by one ===== -/
set_option maxRecDepth 1000000 in
theorem lk_t88 : at_chk [at_q85] [at_jt1] 4000 at_q88 = true := by decide +kernel
set_option maxRecDepth 1000000 in
theorem lk_t89 : at_chk [] [at_jt98] 4000 at_q89 = true := by decide +kernel
set_option maxRecDepth 1000000 in
theorem lk_t90 : at_chk [] [at_jt97] 4000 at_q90 = true := by decide +kernel
set_option maxRecDepth 1000000 in
theorem lk_t91 : at_chk [at_q89, at_q90] [] 4000 at_q91 = true := by decide +kernel
set_option maxRecDepth 1000000 in
theorem lk_t92 : at_chk [at_q89, at_q90] [at_jt2] 4000 at_q92 = true := by decide +kernel
set_option maxRecDepth 1000000 in
theorem lk_t93 : at_chk [] [at_jt99] 4000 at_q93 = true := by decide +kernel
set_option maxRecDepth 1000000 in
theorem lk_t94 : at_chk [at_q93] [at_jt3] 4000 at_q94 = true := by decide +kernel
set_option maxRecDepth 1000000 in
theorem lk_t95 : at_chk [] [at_jt88] 4000 at_q95 = true := by decide +kernel
set_option maxRecDepth 1000000 in
theorem lk_t96 : at_chk [at_q95] [at_jt18, at_jt19, at_jt20] 4000 at_q96 = true := by decide +kernel
set_option maxRecDepth 1000000 in
theorem lk_t97 : at_chk [at_q96] [at_jt4] 4000 at_q97 = true := by decide +kernel
set_option maxRecDepth 1000000 in
theorem lk_t98 : at_chk [] [at_jt5] 4000 at_q98 = true := by decide +kernel
set_option maxRecDepth 1000000 in
theorem lk_t99 : at_chk [] [at_jt6] 4000 at_q99 = true := by decide +kernel
set_option maxRecDepth 1000000 in
theorem lk_t100 : at_chk [] [at_jt7] 4000 at_q100 = true := by decide +kernel
set_option maxRecDepth 1000000 in
theorem lk_t101 : at_chk [] [] 4000 at_q101 = true := by decide +kernel
set_option maxRecDepth 1000000 in
theorem lk_t102 : at_chk [at_q27] [] 4000 at_q102 = true := by decide +kernel
set_option maxRecDepth 1000000 in
theorem lk_t103 : at_chk [at_q12, at_q13] [] 4000 at_q103 = true := by decide +kernel
set_option maxRecDepth 1000000 in
theorem lk_t104 : at_chk [at_q13] [] 4000 at_q104 = true := by decide +kernel
set_option maxRecDepth 1000000 in
theorem lk_t105 : at_chk [at_q32] [] 4000 at_q105 = true := by decide +kernel
set_option maxRecDepth 1000000 in
theorem lk_t106 : at_chk [] [] 4000 at_q106 = true := by decide +kernel
set_option maxRecDepth 1000000 in
theorem lk_t107 : at_chk [] [] 4000 at_q107 = true := by decide +kernel
set_option maxRecDepth 1000000 in
theorem lk_t108 : at_chk [] [] 4000 at_q108 = true := by decide +kernel
set_option maxRecDepth 1000000 in
theorem lk_t109 : at_chk [] [] 4000 at_q109 = true := by decide +kernel

end

/-! 79.09.look.lean.txt -/
section
/-! ===== the looker passes contracts 110 .. 131, one by one ===== -/
set_option maxRecDepth 1000000 in
theorem lk_t110 : at_chk [] [at_jt8] 4000 at_q110 = true := by decide +kernel
set_option maxRecDepth 1000000 in
theorem lk_t111 : at_chk [] [] 4000 at_q111 = true := by decide +kernel
set_option maxRecDepth 1000000 in
theorem lk_t112 : at_chk [] [at_jt84, at_jt87] 4000 at_q112 = true := by decide +kernel
set_option maxRecDepth 1000000 in
theorem lk_t113 : at_chk [] [at_jt92] 4000 at_q113 = true := by decide +kernel
set_option maxRecDepth 1000000 in
theorem lk_t114 : at_chk [] [at_jt106] 4000 at_q114 = true := by decide +kernel
set_option maxRecDepth 1000000 in
theorem lk_t115 : at_chk [at_q114] [] 4000 at_q115 = true := by decide +kernel
set_option maxRecDepth 1000000 in
theorem lk_t116 : at_chk [at_q113, at_q115] [] 4000 at_q116 = true := by decide +kernel
set_option maxRecDepth 1000000 in
theorem lk_t117 : at_chk [] [at_jt137] 4000 at_q117 = true := by decide +kernel
set_option maxRecDepth 1000000 in
theorem lk_t118 : at_chk [at_q117] [] 4000 at_q118 = true := by decide +kernel
set_option maxRecDepth 1000000 in
theorem lk_t119 : at_chk [at_q118] [at_jt104] 4000 at_q119 = true := by decide +kernel
set_option maxRecDepth 1000000 in
theorem lk_t120 : at_chk [at_q118, at_q119] [] 4000 at_q120 = true := by decide +kernel
set_option maxRecDepth 1000000 in
theorem lk_t121 : at_chk [at_q115, at_q118, at_q119, at_q120] [] 4000 at_q121 = true := by decide +kernel
set_option maxRecDepth 1000000 in
theorem lk_t122 : at_chk [] [] 4000 at_q122 = true := by decide +kernel
set_option maxRecDepth 1000000 in
theorem lk_t123 : at_chk [] [] 4000 at_q123 = true := by decide +kernel
set_option maxRecDepth 1000000 in
theorem lk_t124 : at_chk [at_q122, at_q123] [] 4000 at_q124 = true := by decide +kernel
set_option maxRecDepth 1000000 in
theorem lk_t125 : at_chk [at_q124] [at_jt114, at_jt116] 4000 at_q125 = true := by decide +kernel
set_option maxRecDepth 1000000 in
theorem lk_t126 : at_chk [at_q122, at_q123] [] 4000 at_q126 = true := by decide +kernel
set_option maxRecDepth 1000000 in
theorem lk_t127 : at_chk [] [at_jt94] 4000 at_q127 = true := by decide +kernel
set_option maxRecDepth 1000000 in
theorem lk_t128 : at_chk [at_q122, at_q123] [] 4000 at_q128 = true := by decide +kernel
set_option maxRecDepth 1000000 in
theorem lk_t129 : at_chk [] [at_jt124] 4000 at_q129 = true := by decide +kernel
set_option maxRecDepth 1000000 in
theorem lk_t130 : at_chk [at_q127, at_q128, at_q129] [at_jt120, at_jt122] 4000 at_q130 = true := by decide +kernel
set_option maxRecDepth 1000000 in
theorem lk_t131 : at_chk [at_q126, at_q130] [at_jt118] 4000 at_q131 = true := by decide +kernel

end

/-! 79.10.look.lean.txt -/
section
/-! ===== the looker passes contracts 132 .. 153, one by one ===== -/
set_option maxRecDepth 1000000 in
theorem lk_t132 : at_chk [] [at_jt128] 4000 at_q132 = true := by decide +kernel
set_option maxRecDepth 1000000 in
theorem lk_t133 : at_chk [] [] 4000 at_q133 = true := by decide +kernel
set_option maxRecDepth 1000000 in
theorem lk_t134 : at_chk [at_q27, at_q122] [] 4000 at_q134 = true := by decide +kernel
set_option maxRecDepth 1000000 in
theorem lk_t135 : at_chk [at_q113, at_q115, at_q132, at_q133, at_q134] [at_jt126] 4000 at_q135 = true := by decide +kernel
set_option maxRecDepth 1000000 in
theorem lk_t136 : at_chk [] [at_jt130] 4000 at_q136 = true := by decide +kernel
set_option maxRecDepth 1000000 in
theorem lk_t137 : at_chk [] [] 4000 at_q137 = true := by decide +kernel
set_option maxRecDepth 1000000 in
theorem lk_t138 : at_chk [] [at_jt96] 4000 at_q138 = true := by decide +kernel
set_option maxRecDepth 1000000 in
theorem lk_t139 : at_chk [] [] 4000 at_q139 = true := by decide +kernel
set_option maxRecDepth 1000000 in
theorem lk_t140 : at_chk [] [] 4000 at_q140 = true := by decide +kernel
set_option maxRecDepth 1000000 in
theorem lk_t141 : at_chk [at_q114, at_q137, at_q138, at_q139, at_q140] [] 4000 at_q141 = true := by decide +kernel
set_option maxRecDepth 1000000 in
theorem lk_t142 : at_chk [] [at_jt142] 4000 at_q142 = true := by decide +kernel
set_option maxRecDepth 1000000 in
theorem lk_t143 : at_chk [] [at_jt140] 4000 at_q143 = true := by decide +kernel
set_option maxRecDepth 1000000 in
theorem lk_t144 : at_chk [at_q143] [] 4000 at_q144 = true := by decide +kernel
set_option maxRecDepth 1000000 in
theorem lk_t145 : at_chk [at_q144] [] 4000 at_q145 = true := by decide +kernel
set_option maxRecDepth 1000000 in
theorem lk_t146 : at_chk [at_q113, at_q138, at_q145] [at_jt132] 4000 at_q146 = true := by decide +kernel
set_option maxRecDepth 1000000 in
theorem lk_t147 : at_chk [at_q113, at_q114] [] 4000 at_q147 = true := by decide +kernel
set_option maxRecDepth 1000000 in
theorem lk_t148 : at_chk [at_q147] [at_jt134] 4000 at_q148 = true := by decide +kernel
set_option maxRecDepth 1000000 in
theorem lk_t149 : at_chk [at_q116, at_q121, at_q125, at_q131, at_q135, at_q136, at_q141, at_q142, at_q146, at_q148] [] 4000 at_q149 = true := by decide +kernel
set_option maxRecDepth 1000000 in
theorem lk_t150 : at_chk [at_q149] [at_jt108] 4000 at_q150 = true := by decide +kernel
set_option maxRecDepth 1000000 in
theorem lk_t151 : at_chk [at_q112, at_q147, at_q150] [] 4000 at_q151 = true := by decide +kernel
set_option maxRecDepth 1000000 in
theorem lk_t152 : at_chk [at_q112, at_q150] [] 4000 at_q152 = true := by decide +kernel
set_option maxRecDepth 1000000 in
theorem lk_t153 : at_chk [at_q149] [at_jt110, at_jt112] 4000 at_q153 = true := by decide +kernel

end

/-! 79.11.look.lean.txt -/
section
/-! ===== the looker passes contracts 154 .. 175, one by one ===== -/
set_option maxRecDepth 1000000 in
theorem lk_t154 : at_chk [at_q112, at_q147, at_q153] [] 4000 at_q154 = true := by decide +kernel
set_option maxRecDepth 1000000 in
theorem lk_t155 : at_chk [at_q112, at_q149] [at_jt9] 4000 at_q155 = true := by decide +kernel
set_option maxRecDepth 1000000 in
theorem lk_t156 : at_chk [at_q112, at_q149] [at_jt10] 4000 at_q156 = true := by decide +kernel
set_option maxRecDepth 1000000 in
theorem lk_t157 : at_chk [at_q112, at_q149] [at_jt17] 4000 at_q157 = true := by decide +kernel
set_option maxRecDepth 1000000 in
theorem lk_t158 : at_chk [at_q12, at_q13, at_q157] [at_jt11] 4000 at_q158 = true := by decide +kernel
set_option maxRecDepth 1000000 in
theorem lk_t159 : at_chk [at_q112, at_q138, at_q149] [at_jt16] 4000 at_q159 = true := by decide +kernel
set_option maxRecDepth 1000000 in
theorem lk_t160 : at_chk [at_q159] [at_jt12] 4000 at_q160 = true := by decide +kernel
set_option maxRecDepth 1000000 in
theorem lk_t161 : at_chk [at_q112, at_q149] [at_jt13] 4000 at_q161 = true := by decide +kernel
set_option maxRecDepth 1000000 in
theorem lk_t162 : at_chk [] [at_jt102] 4000 at_q162 = true := by decide +kernel
set_option maxRecDepth 1000000 in
theorem lk_t163 : at_chk [at_q112, at_q149, at_q162] [at_jt14] 4000 at_q163 = true := by decide +kernel
set_option maxRecDepth 1000000 in
theorem lk_t164 : at_chk [at_q159] [at_jt15] 4000 at_q164 = true := by decide +kernel
set_option maxRecDepth 1000000 in
theorem lk_t165 : at_chk [] [] 4000 at_q165 = true := by decide +kernel
set_option maxRecDepth 1000000 in
theorem lk_t166 : at_chk [at_qm4, at_q165] [at_jt51] 4000 at_q166 = true := by decide +kernel
set_option maxRecDepth 1000000 in
theorem lk_t167 : at_chk [at_qm4] [] 4000 at_q167 = true := by decide +kernel
set_option maxRecDepth 1000000 in
theorem lk_t168 : at_chk [at_qm4] [] 4000 at_q168 = true := by decide +kernel
set_option maxRecDepth 1000000 in
theorem lk_t169 : at_chk [at_qm4] [] 4000 at_q169 = true := by decide +kernel
set_option maxRecDepth 1000000 in
theorem lk_t170 : at_chk [] [] 4000 at_q170 = true := by decide +kernel
set_option maxRecDepth 1000000 in
theorem lk_t171 : at_chk [at_q165, at_q170] [at_jt22] 4000 at_q171 = true := by decide +kernel
set_option maxRecDepth 1000000 in
theorem lk_t172 : at_chk [] [at_jt26] 4000 at_q172 = true := by decide +kernel
set_option maxRecDepth 1000000 in
theorem lk_t173 : at_chk [at_q172] [] 4000 at_q173 = true := by decide +kernel
set_option maxRecDepth 1000000 in
theorem lk_t174 : at_chk [at_q171, at_q172, at_q173] [] 4000 at_q174 = true := by decide +kernel
set_option maxRecDepth 1000000 in
theorem lk_t175 : at_chk [at_q165, at_q170] [at_jt27] 4000 at_q175 = true := by decide +kernel

end
