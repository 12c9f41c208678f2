/-! 79.02.look.lean.txt -/
section
/-! ===== the looker passes contracts 220 .. 241, one by one ===== -/
set_option maxRecDepth 1000000 in
theorem lk_t220 : at_chk [at_q219] [] 4000 at_q220 = true := by decide +kernel
set_option maxRecDepth 1000000 in
theorem lk_t221 : at_chk [] [] 4000 at_q221 = true := by decide +kernel
set_option maxRecDepth 1000000 in
theorem lk_t222 : at_chk [at_q165, at_q170] [at_jt58] 4000 at_q222 = true := by decide +kernel
set_option maxRecDepth 1000000 in
theorem lk_t223 : at_chk [] [] 4000 at_q223 = true := by decide +kernel
set_option maxRecDepth 1000000 in
theorem lk_t224 : at_chk [] [] 4000 at_q224 = true := by decide +kernel
set_option maxRecDepth 1000000 in
theorem lk_t225 : at_chk [] [] 4000 at_q225 = true := by decide +kernel
set_option maxRecDepth 1000000 in
theorem lk_t226 : at_chk [] [] 4000 at_q226 = true := by decide +kernel
set_option maxRecDepth 1000000 in
theorem lk_t227 : at_chk [at_q165, at_q170, at_q190] [at_jt59] 4000 at_q227 = true := by decide +kernel
set_option maxRecDepth 1000000 in
theorem lk_t228 : at_chk [at_q181] [] 4000 at_q228 = true := by decide +kernel
set_option maxRecDepth 1000000 in
theorem lk_t229 : at_chk [] [] 4000 at_q229 = true := by decide +kernel
set_option maxRecDepth 1000000 in
theorem lk_t230 : at_chk [at_q165, at_q170] [at_jt60] 4000 at_q230 = true := by decide +kernel
set_option maxRecDepth 1000000 in
theorem lk_t231 : at_chk [at_q165] [at_jt61] 4000 at_q231 = true := by decide +kernel
set_option maxRecDepth 1000000 in
theorem lk_t232 : at_chk [at_q170] [] 4000 at_q232 = true := by decide +kernel
set_option maxRecDepth 1000000 in
theorem lk_t233 : at_chk [at_q186] [] 4000 at_q233 = true := by decide +kernel
set_option maxRecDepth 1000000 in
theorem lk_t234 : at_chk [at_q177] [] 4000 at_q234 = true := by decide +kernel
set_option maxRecDepth 1000000 in
theorem lk_t235 : at_chk [at_q176] [] 4000 at_q235 = true := by decide +kernel
set_option maxRecDepth 1000000 in
theorem lk_t236 : at_chk [at_q190] [] 4000 at_q236 = true := by decide +kernel
set_option maxRecDepth 1000000 in
theorem lk_t237 : at_chk [] [] 4000 at_q237 = true := by decide +kernel
set_option maxRecDepth 1000000 in
theorem lk_t238 : at_chk [] [] 4000 at_q238 = true := by decide +kernel
set_option maxRecDepth 1000000 in
theorem lk_t239 : at_chk [] [] 4000 at_q239 = true := by decide +kernel
set_option maxRecDepth 1000000 in
theorem lk_t240 : at_chk [] [at_jt62] 4000 at_q240 = true := by decide +kernel
set_option maxRecDepth 1000000 in
theorem lk_t241 : at_chk [at_q165] [] 4000 at_q241 = true := by decide +kernel

end

/-! 79.03.look.lean.txt -/
section
/-! ===== the looker passes contracts 242 .. 263, one by one ===== -/
set_option maxRecDepth 1000000 in
theorem lk_t242 : at_chk [at_q165] [at_jt63, at_jt64] 4000 at_q242 = true := by decide +kernel
set_option maxRecDepth 1000000 in
theorem lk_t243 : at_chk [at_qm8, at_q165] [at_jt65] 4000 at_q243 = true := by decide +kernel
set_option maxRecDepth 1000000 in
theorem lk_t244 : at_chk [] [] 4000 at_q244 = true := by decide +kernel
set_option maxRecDepth 1000000 in
theorem lk_t245 : at_chk [] [at_jt66] 4000 at_q245 = true := by decide +kernel
set_option maxRecDepth 1000000 in
theorem lk_t246 : at_chk [] [at_jt66, at_jt67] 4000 at_q246 = true := by decide +kernel
set_option maxRecDepth 1000000 in
theorem lk_t247 : at_chk [] [at_jt68] 4000 at_q247 = true := by decide +kernel
set_option maxRecDepth 1000000 in
theorem lk_t248 : at_chk [] [at_jt69] 4000 at_q248 = true := by decide +kernel
set_option maxRecDepth 1000000 in
theorem lk_t249 : at_chk [at_q247, at_q248] [at_jt70] 4000 at_q249 = true := by decide +kernel
set_option maxRecDepth 1000000 in
theorem lk_t250 : at_chk [] [at_jt71] 4000 at_q250 = true := by decide +kernel
set_option maxRecDepth 1000000 in
theorem lk_t251 : at_chk [at_qm10, at_qm11, at_q197, at_q200] [] 4000 at_q251 = true := by decide +kernel
set_option maxRecDepth 1000000 in
theorem lk_t252 : at_chk [at_qm10, at_qm11, at_q200, at_q220] [] 4000 at_q252 = true := by decide +kernel
set_option maxRecDepth 1000000 in
theorem lk_t253 : at_chk [at_qm10, at_qm11, at_q197, at_q216] [] 4000 at_q253 = true := by decide +kernel
set_option maxRecDepth 1000000 in
theorem lk_t254 : at_chk [at_qm10, at_qm11, at_q199] [at_jt72] 4000 at_q254 = true := by decide +kernel
set_option maxRecDepth 1000000 in
theorem lk_t255 : at_chk [at_qm10, at_qm11, at_q199] [at_jt73, at_jt74] 4000 at_q255 = true := by decide +kernel
set_option maxRecDepth 1000000 in
theorem lk_t256 : at_chk [at_qm10, at_qm11, at_q199] [at_jt75] 4000 at_q256 = true := by decide +kernel
set_option maxRecDepth 1000000 in
theorem lk_t257 : at_chk [at_q256] [at_jt76] 4000 at_q257 = true := by decide +kernel
set_option maxRecDepth 1000000 in
theorem lk_t258 : at_chk [at_qm10, at_qm11, at_q199] [at_jt77] 4000 at_q258 = true := by decide +kernel
set_option maxRecDepth 1000000 in
theorem lk_t259 : at_chk [at_qm10, at_qm11, at_q190, at_q200] [at_jt78] 4000 at_q259 = true := by decide +kernel
set_option maxRecDepth 1000000 in
theorem lk_t260 : at_chk [] [at_jt79] 4000 at_q260 = true := by decide +kernel
set_option maxRecDepth 1000000 in
theorem lk_t261 : at_chk [at_qm10, at_qm11, at_q199, at_q260] [at_jt80] 4000 at_q261 = true := by decide +kernel
set_option maxRecDepth 1000000 in
theorem lk_t262 : at_chk [at_qm10, at_qm11, at_q190, at_q200] [at_jt81] 4000 at_q262 = true := by decide +kernel
set_option maxRecDepth 1000000 in
theorem lk_t263 : at_chk [] [] 4000 at_q263 = true := by decide +kernel

end

/-! 79.04.look.lean.txt -/
section
/-! ===== the looker passes contracts 0 .. 21, one by one ===== -/
set_option maxRecDepth 1000000 in
theorem lk_t0 : at_chk [] [at_jt83, at_jt86] 4000 at_q0 = true := by decide +kernel
set_option maxRecDepth 1000000 in
theorem lk_t1 : at_chk [] [] 4000 at_q1 = true := by decide +kernel
set_option maxRecDepth 1000000 in
theorem lk_t2 : at_chk [] [at_jt89] 4000 at_q2 = true := by decide +kernel
set_option maxRecDepth 1000000 in
theorem lk_t3 : at_chk [at_qm0, at_q0, at_q1, at_q2] [] 4000 at_q3 = true := by decide +kernel
set_option maxRecDepth 1000000 in
theorem lk_t4 : at_chk [at_qm0, at_q0, at_q1] [] 4000 at_q4 = true := by decide +kernel
set_option maxRecDepth 1000000 in
theorem lk_t5 : at_chk [at_qm0, at_q0] [] 4000 at_q5 = true := by decide +kernel
set_option maxRecDepth 1000000 in
theorem lk_t6 : at_chk [at_qm0, at_q0] [] 4000 at_q6 = true := by decide +kernel
set_option maxRecDepth 1000000 in
theorem lk_t7 : at_chk [] [at_jt91] 4000 at_q7 = true := by decide +kernel
set_option maxRecDepth 1000000 in
theorem lk_t8 : at_chk [] [at_jt105] 4000 at_q8 = true := by decide +kernel
set_option maxRecDepth 1000000 in
theorem lk_t9 : at_chk [at_q8] [] 4000 at_q9 = true := by decide +kernel
set_option maxRecDepth 1000000 in
theorem lk_t10 : at_chk [at_q7, at_q9] [] 4000 at_q10 = true := by decide +kernel
set_option maxRecDepth 1000000 in
theorem lk_t11 : at_chk [] [at_jt136] 4000 at_q11 = true := by decide +kernel
set_option maxRecDepth 1000000 in
theorem lk_t12 : at_chk [at_q11] [] 4000 at_q12 = true := by decide +kernel
set_option maxRecDepth 1000000 in
theorem lk_t13 : at_chk [at_q12] [at_jt103] 4000 at_q13 = true := by decide +kernel
set_option maxRecDepth 1000000 in
theorem lk_t14 : at_chk [at_q12, at_q13] [] 4000 at_q14 = true := by decide +kernel
set_option maxRecDepth 1000000 in
theorem lk_t15 : at_chk [at_q9, at_q12, at_q13, at_q14] [] 4000 at_q15 = true := by decide +kernel
set_option maxRecDepth 1000000 in
theorem lk_t16 : at_chk [] [] 4000 at_q16 = true := by decide +kernel
set_option maxRecDepth 1000000 in
theorem lk_t17 : at_chk [at_q1, at_q16] [] 4000 at_q17 = true := by decide +kernel
set_option maxRecDepth 1000000 in
theorem lk_t18 : at_chk [at_q17] [at_jt113, at_jt115] 4000 at_q18 = true := by decide +kernel
set_option maxRecDepth 1000000 in
theorem lk_t19 : at_chk [at_q1, at_q16] [] 4000 at_q19 = true := by decide +kernel
set_option maxRecDepth 1000000 in
theorem lk_t20 : at_chk [] [at_jt93] 4000 at_q20 = true := by decide +kernel
set_option maxRecDepth 1000000 in
theorem lk_t21 : at_chk [at_q1, at_q16] [] 4000 at_q21 = true := by decide +kernel

end

/-! 79.05.look.lean.txt -/
section
/-! ===== the looker passes contracts 22 .. 43, one by one ===== -/
set_option maxRecDepth 1000000 in
theorem lk_t22 : at_chk [] [at_jt123] 4000 at_q22 = true := by decide +kernel
set_option maxRecDepth 1000000 in
theorem lk_t23 : at_chk [at_q20, at_q21, at_q22] [at_jt119, at_jt121] 4000 at_q23 = true := by decide +kernel
set_option maxRecDepth 1000000 in
theorem lk_t24 : at_chk [at_q19, at_q23] [at_jt117] 4000 at_q24 = true := by decide +kernel
set_option maxRecDepth 1000000 in
theorem lk_t25 : at_chk [] [at_jt127] 4000 at_q25 = true := by decide +kernel
set_option maxRecDepth 1000000 in
theorem lk_t26 : at_chk [] [] 4000 at_q26 = true := by decide +kernel
set_option maxRecDepth 1000000 in
theorem lk_t27 : at_chk [] [at_jt21] 4000 at_q27 = true := by decide +kernel
set_option maxRecDepth 1000000 in
theorem lk_t28 : at_chk [at_q16, at_q27] [] 4000 at_q28 = true := by decide +kernel
set_option maxRecDepth 1000000 in
theorem lk_t29 : at_chk [at_q7, at_q9, at_q25, at_q26, at_q28] [at_jt125] 4000 at_q29 = true := by decide +kernel
set_option maxRecDepth 1000000 in
theorem lk_t30 : at_chk [] [at_jt129] 4000 at_q30 = true := by decide +kernel
set_option maxRecDepth 1000000 in
theorem lk_t31 : at_chk [] [] 4000 at_q31 = true := by decide +kernel
set_option maxRecDepth 1000000 in
theorem lk_t32 : at_chk [] [at_jt95] 4000 at_q32 = true := by decide +kernel
set_option maxRecDepth 1000000 in
theorem lk_t33 : at_chk [] [] 4000 at_q33 = true := by decide +kernel
set_option maxRecDepth 1000000 in
theorem lk_t34 : at_chk [] [] 4000 at_q34 = true := by decide +kernel
set_option maxRecDepth 1000000 in
theorem lk_t35 : at_chk [at_q8, at_q31, at_q32, at_q33, at_q34] [] 4000 at_q35 = true := by decide +kernel
set_option maxRecDepth 1000000 in
theorem lk_t36 : at_chk [] [at_jt141] 4000 at_q36 = true := by decide +kernel
set_option maxRecDepth 1000000 in
theorem lk_t37 : at_chk [] [at_jt139] 4000 at_q37 = true := by decide +kernel
set_option maxRecDepth 1000000 in
theorem lk_t38 : at_chk [at_q37] [] 4000 at_q38 = true := by decide +kernel
set_option maxRecDepth 1000000 in
theorem lk_t39 : at_chk [at_q38] [] 4000 at_q39 = true := by decide +kernel
set_option maxRecDepth 1000000 in
theorem lk_t40 : at_chk [at_q7, at_q32, at_q39] [at_jt131] 4000 at_q40 = true := by decide +kernel
set_option maxRecDepth 1000000 in
theorem lk_t41 : at_chk [at_q7, at_q8] [] 4000 at_q41 = true := by decide +kernel
set_option maxRecDepth 1000000 in
theorem lk_t42 : at_chk [at_q41] [at_jt133] 4000 at_q42 = true := by decide +kernel
set_option maxRecDepth 1000000 in
theorem lk_t43 : at_chk [at_q10, at_q15, at_q18, at_q24, at_q29, at_q30, at_q35, at_q36, at_q40, at_q42] [] 4000 at_q43 = true := by decide +kernel

end

/-! 79.06.look.lean.txt -/
section
/-! ===== the looker passes contracts 44 .. 65, one by one ===== -/
set_option maxRecDepth 1000000 in
theorem lk_t44 : at_chk [at_q43] [at_jt107] 4000 at_q44 = true := by decide +kernel
set_option maxRecDepth 1000000 in
theorem lk_t45 : at_chk [at_qm0, at_q0, at_q44] [] 4000 at_q45 = true := by decide +kernel
set_option maxRecDepth 1000000 in
theorem lk_t46 : at_chk [at_qm0, at_q0] [] 4000 at_q46 = true := by decide +kernel
set_option maxRecDepth 1000000 in
theorem lk_t47 : at_chk [at_qm0, at_q0] [] 4000 at_q47 = true := by decide +kernel
set_option maxRecDepth 1000000 in
theorem lk_t48 : at_chk [at_qm0, at_q0] [] 4000 at_q48 = true := by decide +kernel
set_option maxRecDepth 1000000 in
theorem lk_t49 : at_chk [at_qm0, at_q0] [] 4000 at_q49 = true := by decide +kernel
set_option maxRecDepth 1000000 in
theorem lk_t50 : at_chk [at_qm0, at_q0] [] 4000 at_q50 = true := by decide +kernel
set_option maxRecDepth 1000000 in
theorem lk_t51 : at_chk [at_qm0, at_q0] [] 4000 at_q51 = true := by decide +kernel
set_option maxRecDepth 1000000 in
theorem lk_t52 : at_chk [at_qm0, at_q0] [] 4000 at_q52 = true := by decide +kernel
set_option maxRecDepth 1000000 in
theorem lk_t53 : at_chk [] [at_jt90] 4000 at_q53 = true := by decide +kernel
set_option maxRecDepth 1000000 in
theorem lk_t54 : at_chk [at_qm0, at_q0, at_q53] [] 4000 at_q54 = true := by decide +kernel
set_option maxRecDepth 1000000 in
theorem lk_t55 : at_chk [at_qm0, at_q0] [] 4000 at_q55 = true := by decide +kernel
set_option maxRecDepth 1000000 in
theorem lk_t56 : at_chk [at_qm0, at_q0] [] 4000 at_q56 = true := by decide +kernel
set_option maxRecDepth 1000000 in
theorem lk_t57 : at_chk [at_qm0, at_q0] [] 4000 at_q57 = true := by decide +kernel
set_option maxRecDepth 1000000 in
theorem lk_t58 : at_chk [at_qm0, at_q0] [] 4000 at_q58 = true := by decide +kernel
set_option maxRecDepth 1000000 in
theorem lk_t59 : at_chk [] [at_jt138] 4000 at_q59 = true := by decide +kernel
set_option maxRecDepth 1000000 in
theorem lk_t60 : at_chk [at_q43] [at_jt109, at_jt111] 4000 at_q60 = true := by decide +kernel
set_option maxRecDepth 1000000 in
theorem lk_t61 : at_chk [at_qm0, at_q0, at_q59, at_q60] [] 4000 at_q61 = true := by decide +kernel
set_option maxRecDepth 1000000 in
theorem lk_t62 : at_chk [] [at_jt82, at_jt85] 4000 at_q62 = true := by decide +kernel
set_option maxRecDepth 1000000 in
theorem lk_t63 : at_chk [at_qm0, at_q62] [] 4000 at_q63 = true := by decide +kernel
set_option maxRecDepth 1000000 in
theorem lk_t64 : at_chk [] [at_jt83, at_jt86] 4000 at_q64 = true := by decide +kernel
set_option maxRecDepth 1000000 in
theorem lk_t65 : at_chk [at_qm0, at_q64] [at_jt34] 4000 at_q65 = true := by decide +kernel

end

/-! 79.07.look.lean.txt -/
section
/-! ===== the looker passes contracts 66 .. 87, one by one ===== -/
set_option maxRecDepth 1000000 in
theorem lk_t66 : at_chk [at_q0, at_q65] [] 4000 at_q66 = true := by decide +kernel
set_option maxRecDepth 1000000 in
theorem lk_t67 : at_chk [at_q62, at_q65] [] 4000 at_q67 = true := by decide +kernel
set_option maxRecDepth 1000000 in
theorem lk_t68 : at_chk [at_q41] [] 4000 at_q68 = true := by decide +kernel
set_option maxRecDepth 1000000 in
theorem lk_t69 : at_chk [] [] 4000 at_q69 = true := by decide +kernel
set_option maxRecDepth 1000000 in
theorem lk_t70 : at_chk [] [] 4000 at_q70 = true := by decide +kernel
set_option maxRecDepth 1000000 in
theorem lk_t71 : at_chk [] [] 4000 at_q71 = true := by decide +kernel
set_option maxRecDepth 1000000 in
theorem lk_t72 : at_chk [at_q32] [at_jt135] 4000 at_q72 = true := by decide +kernel
set_option maxRecDepth 1000000 in
theorem lk_t73 : at_chk [at_q72] [] 4000 at_q73 = true := by decide +kernel
set_option maxRecDepth 1000000 in
theorem lk_t74 : at_chk [] [] 4000 at_q74 = true := by decide +kernel
set_option maxRecDepth 1000000 in
theorem lk_t75 : at_chk [] [] 4000 at_q75 = true := by decide +kernel
set_option maxRecDepth 1000000 in
theorem lk_t76 : at_chk [] [] 4000 at_q76 = true := by decide +kernel
set_option maxRecDepth 1000000 in
theorem lk_t77 : at_chk [] [] 4000 at_q77 = true := by decide +kernel
set_option maxRecDepth 1000000 in
theorem lk_t78 : at_chk [] [] 4000 at_q78 = true := by decide +kernel
set_option maxRecDepth 1000000 in
theorem lk_t79 : at_chk [at_q32, at_q78] [at_jt0] 4000 at_q79 = true := by decide +kernel
set_option maxRecDepth 1000000 in
theorem lk_t80 : at_chk [at_q20] [] 4000 at_q80 = true := by decide +kernel
set_option maxRecDepth 1000000 in
theorem lk_t81 : at_chk [] [] 4000 at_q81 = true := by decide +kernel
set_option maxRecDepth 1000000 in
theorem lk_t82 : at_chk [] [] 4000 at_q82 = true := by decide +kernel
set_option maxRecDepth 1000000 in
theorem lk_t83 : at_chk [] [] 4000 at_q83 = true := by decide +kernel
set_option maxRecDepth 1000000 in
theorem lk_t84 : at_chk [] [at_jt101] 4000 at_q84 = true := by decide +kernel
set_option maxRecDepth 1000000 in
theorem lk_t85 : at_chk [at_q84] [at_jt100] 4000 at_q85 = true := by decide +kernel
set_option maxRecDepth 1000000 in
theorem lk_t86 : at_chk [at_q85] [] 4000 at_q86 = true := by decide +kernel
set_option maxRecDepth 1000000 in
theorem lk_t87 : at_chk [at_q85] [] 4000 at_q87 = true := by decide +kernel

end

/-! 79.08.look.lean.txt -/
section
/-! ===== the looker passes contracts 88 .. 109, one by one ===== -/
set_option maxRecDepth 1000000 in
theorem lk_t88 : at_chk [at_q85] [at_jt1] 4000 at_q88 = true := by decide +kernel
set_option maxRecDepth 1000000 in
theorem lk_t89 : at_chk [] [at_jt98] 4000 at_q89 = true := by decide +kernel
set_option maxRecDepth 1000000 in
theorem lk_t90 : at_chk [] [at_jt97] 4000 at_q90 = true := by decide +kernel
set_option maxRecDepth 1000000 in
theorem lk_t91 : at_chk [at_q89, at_q90] [] 4000 at_q91 = true := by decide +kernel
set_option maxRecDepth 1000000 in
theorem lk_t92 : at_chk [at_q89, at_q90] [at_jt2] 4000 at_q92 = true := by decide +kernel
set_option maxRecDepth 1000000 in
theorem lk_t93 : at_chk [] [at_jt99] 4000 at_q93 = true := by decide +kernel
set_option maxRecDepth 1000000 in
theorem lk_t94 : at_chk [at_q93] [at_jt3] 4000 at_q94 = true := by decide +kernel
set_option maxRecDepth 1000000 in
theorem lk_t95 : at_chk [] [at_jt88] 4000 at_q95 = true := by decide +kernel
set_option maxRecDepth 1000000 in
theorem lk_t96 : at_chk [at_q95] [at_jt18, at_jt19, at_jt20] 4000 at_q96 = true := by decide +kernel
set_option maxRecDepth 1000000 in
theorem lk_t97 : at_chk [at_q96] [at_jt4] 4000 at_q97 = true := by decide +kernel
set_option maxRecDepth 1000000 in
theorem lk_t98 : at_chk [] [at_jt5] 4000 at_q98 = true := by decide +kernel
set_option maxRecDepth 1000000 in
theorem lk_t99 : at_chk [] [at_jt6] 4000 at_q99 = true := by decide +kernel
set_option maxRecDepth 1000000 in
theorem lk_t100 : at_chk [] [at_jt7] 4000 at_q100 = true := by decide +kernel
set_option maxRecDepth 1000000 in
theorem lk_t101 : at_chk [] [] 4000 at_q101 = true := by decide +kernel
set_option maxRecDepth 1000000 in
theorem lk_t102 : at_chk [at_q27] [] 4000 at_q102 = true := by decide +kernel
set_option maxRecDepth 1000000 in
theorem lk_t103 : at_chk [at_q12, at_q13] [] 4000 at_q103 = true := by decide +kernel
set_option maxRecDepth 1000000 in
theorem lk_t104 : at_chk [at_q13] [] 4000 at_q104 = true := by decide +kernel
set_option maxRecDepth 1000000 in
theorem lk_t105 : at_chk [at_q32] [] 4000 at_q105 = true := by decide +kernel
set_option maxRecDepth 1000000 in
theorem lk_t106 : at_chk [] [] 4000 at_q106 = true := by decide +kernel
set_option maxRecDepth 1000000 in
theorem lk_t107 : at_chk [] [] 4000 at_q107 = true := by decide +kernel
set_option maxRecDepth 1000000 in
theorem lk_t108 : at_chk [] [] 4000 at_q108 = true := by decide +kernel
set_option maxRecDepth 1000000 in
theorem lk_t109 : at_chk [] [] 4000 at_q109 = true := by decide +kernel

end

/-! 79.09.look.lean.txt -/
section
/-! ===== the looker passes contracts 110 .. 131, one by one ===== -/
set_option maxRecDepth 1000000 in
theorem lk_t110 : at_chk [] [at_jt8] 4000 at_q110 = true := by decide +kernel
set_option maxRecDepth 1000000 in
theorem lk_t111 : at_chk [] [] 4000 at_q111 = true := by decide +kernel
set_option maxRecDepth 1000000 in
theorem lk_t112 : at_chk [] [at_jt84, at_jt87] 4000 at_q112 = true := by decide +kernel
set_option maxRecDepth 1000000 in
theorem lk_t113 : at_chk [] [at_jt92] 4000 at_q113 = true := by decide +kernel
set_option maxRecDepth 1000000 in
theorem lk_t114 : at_chk [] [at_jt106] 4000 at_q114 = true := by decide +kernel
set_option maxRecDepth 1000000 in
theorem lk_t115 : at_chk [at_q114] [] 4000 at_q115 = true := by decide +kernel
set_option maxRecDepth 1000000 in
theorem lk_t116 : at_chk [at_q113, at_q115] [] 4000 at_q116 = true := by decide +kernel
set_option maxRecDepth 1000000 in
theorem lk_t117 : at_chk [] [at_jt137] 4000 at_q117 = true := by decide +kernel
set_option maxRecDepth 1000000 in
theorem lk_t118 : at_chk [at_q117] [] 4000 at_q118 = true := by decide +kernel
set_option maxRecDepth 1000000 in
theorem lk_t119 : at_chk [at_q118] [at_jt104] 4000 at_q119 = true := by decide +kernel
set_option maxRecDepth 1000000 in
theorem lk_t120 : at_chk [at_q118, at_q119] [] 4000 at_q120 = true := by decide +kernel
set_option maxRecDepth 1000000 in
theorem lk_t121 : at_chk [at_q115, at_q118, at_q119, at_q120] [] 4000 at_q121 = true := by decide +kernel
set_option maxRecDepth 1000000 in
theorem lk_t122 : at_chk [] [] 4000 at_q122 = true := by decide +kernel
set_option maxRecDepth 1000000 in
theorem lk_t123 : at_chk [] [] 4000 at_q123 = true := by decide +kernel
set_option maxRecDepth 1000000 in
theorem lk_t124 : at_chk [at_q122, at_q123] [] 4000 at_q124 = true := by decide +kernel
set_option maxRecDepth 1000000 in
theorem lk_t125 : at_chk [at_q124] [at_jt114, at_jt116] 4000 at_q125 = true := by decide +kernel
set_option maxRecDepth 1000000 in
theorem lk_t126 : at_chk [at_q122, at_q123] [] 4000 at_q126 = true := by decide +kernel
set_option maxRecDepth 1000000 in
theorem lk_t127 : at_chk [] [at_jt94] 4000 at_q127 = true := by decide +kernel
set_option maxRecDepth 1000000 in
theorem lk_t128 : at_chk [at_q122, at_q123] [] 4000 at_q128 = true := by decide +kernel
set_option maxRecDepth 1000000 in
theorem lk_t129 : at_chk [] [at_jt124] 4000 at_q129 = true := by decide +kernel
set_option maxRecDepth 1000000 in
theorem lk_t130 : at_chk [at_q127, at_q128, at_q129] [at_jt120, at_jt122] 4000 at_q130 = true := by decide +kernel
set_option maxRecDepth 1000000 in
theorem lk_t131 : at_chk [at_q126, at_q130] [at_jt118] 4000 at_q131 = true := by decide +kernel

end

/-! 79.10.look.lean.txt -/
section
/-! ===== the looker passes contracts 132 .. 153, one by one ===== -/
set_option maxRecDepth 1000000 in
theorem lk_t132 : at_chk [] [at_jt128] 4000 at_q132 = true := by decide +kernel
set_option maxRecDepth 1000000 in
theorem lk_t133 : at_chk [] [] 4000 at_q133 = true := by decide +kernel
set_option maxRecDepth 1000000 in
theorem lk_t134 : at_chk [at_q27, at_q122] [] 4000 at_q134 = true := by decide +kernel
set_option maxRecDepth 1000000 in
theorem lk_t135 : at_chk [at_q113, at_q115, at_q132, at_q133, at_q134] [at_jt126] 4000 at_q135 = true := by decide +kernel
set_option maxRecDepth 1000000 in
theorem lk_t136 : at_chk [] [at_jt130] 4000 at_q136 = true := by decide +kernel
set_option maxRecDepth 1000000 in
theorem lk_t137 : at_chk [] [] 4000 at_q137 = true := by decide +kernel
set_option maxRecDepth 1000000 in
theorem lk_t138 : at_chk [] [at_jt96] 4000 at_q138 = true := by decide +kernel
set_option maxRecDepth 1000000 in
theorem lk_t139 : at_chk [] [] 4000 at_q139 = true := by decide +kernel
set_option maxRecDepth 1000000 in
theorem lk_t140 : at_chk [] [] 4000 at_q140 = true := by decide +kernel
set_option maxRecDepth 1000000 in
theorem lk_t141 : at_chk [at_q114, at_q137, at_q138, at_q139, at_q140] [] 4000 at_q141 = true := by decide +kernel
set_option maxRecDepth 1000000 in
theorem lk_t142 : at_chk [] [at_jt142] 4000 at_q142 = true := by decide +kernel
set_option maxRecDepth 1000000 in
theorem lk_t143 : at_chk [] [at_jt140] 4000 at_q143 = true := by decide +kernel
set_option maxRecDepth 1000000 in
theorem lk_t144 : at_chk [at_q143] [] 4000 at_q144 = true := by decide +kernel
set_option maxRecDepth 1000000 in
theorem lk_t145 : at_chk [at_q144] [] 4000 at_q145 = true := by decide +kernel
set_option maxRecDepth 1000000 in
theorem lk_t146 : at_chk [at_q113, at_q138, at_q145] [at_jt132] 4000 at_q146 = true := by decide +kernel
set_option maxRecDepth 1000000 in
theorem lk_t147 : at_chk [at_q113, at_q114] [] 4000 at_q147 = true := by decide +kernel
set_option maxRecDepth 1000000 in
theorem lk_t148 : at_chk [at_q147] [at_jt134] 4000 at_q148 = true := by decide +kernel
set_option maxRecDepth 1000000 in
theorem lk_t149 : at_chk [at_q116, at_q121, at_q125, at_q131, at_q135, at_q136, at_q141, at_q142, at_q146, at_q148] [] 4000 at_q149 = true := by decide +kernel
set_option maxRecDepth 1000000 in
theorem lk_t150 : at_chk [at_q149] [at_jt108] 4000 at_q150 = true := by decide +kernel
set_option maxRecDepth 1000000 in
theorem lk_t151 : at_chk [at_q112, at_q147, at_q150] [] 4000 at_q151 = true := by decide +kernel
set_option maxRecDepth 1000000 in
theorem lk_t152 : at_chk [at_q112, at_q150] [] 4000 at_q152 = true := by decide +kernel
set_option maxRecDepth 1000000 in
theorem lk_t153 : at_chk [at_q149] [at_jt110, at_jt112] 4000 at_q153 = true := by decide +kernel

end

/-! 79.11.look.lean.txt -/
section
/-! ===== the looker passes contracts 154 .. 175, one by one ===== -/
set_option maxRecDepth 1000000 in
theorem lk_t154 : at_chk [at_q112, at_q147, at_q153] [] 4000 at_q154 = true := by decide +kernel
set_option maxRecDepth 1000000 in
theorem lk_t155 : at_chk [at_q112, at_q149] [at_jt9] 4000 at_q155 = true := by decide +kernel
set_option maxRecDepth 1000000 in
theorem lk_t156 : at_chk [at_q112, at_q149] [at_jt10] 4000 at_q156 = true := by decide +kernel
set_option maxRecDepth 1000000 in
theorem lk_t157 : at_chk [at_q112, at_q149] [at_jt17] 4000 at_q157 = true := by decide +kernel
set_option maxRecDepth 1000000 in
theorem lk_t158 : at_chk [at_q12, at_q13, at_q157] [at_jt11] 4000 at_q158 = true := by decide +kernel
set_option maxRecDepth 1000000 in
theorem lk_t159 : at_chk [at_q112, at_q138, at_q149] [at_jt16] 4000 at_q159 = true := by decide +kernel
set_option maxRecDepth 1000000 in
theorem lk_t160 : at_chk [at_q159] [at_jt12] 4000 at_q160 = true := by decide +kernel
set_option maxRecDepth 1000000 in
theorem lk_t161 : at_chk [at_q112, at_q149] [at_jt13] 4000 at_q161 = true := by decide +kernel
set_option maxRecDepth 1000000 in
theorem lk_t162 : at_chk [] [at_jt102] 4000 at_q162 = true := by decide +kernel
set_option maxRecDepth 1000000 in
theorem lk_t163 : at_chk [at_q112, at_q149, at_q162] [at_jt14] 4000 at_q163 = true := by decide +kernel
set_option maxRecDepth 1000000 in
theorem lk_t164 : at_chk [at_q159] [at_jt15] 4000 at_q164 = true := by decide +kernel
set_option maxRecDepth 1000000 in
theorem lk_t165 : at_chk [] [] 4000 at_q165 = true := by decide +kernel
set_option maxRecDepth 1000000 in
theorem lk_t166 : at_chk [at_qm4, at_q165] [at_jt51] 4000 at_q166 = true := by decide +kernel
set_option maxRecDepth 1000000 in
theorem lk_t167 : at_chk [at_qm4] [] 4000 at_q167 = true := by decide +kernel
set_option maxRecDepth 1000000 in
theorem lk_t168 : at_chk [at_qm4] [] 4000 at_q168 = true := by decide +kernel
set_option maxRecDepth 1000000 in
theorem lk_t169 : at_chk [at_qm4] [] 4000 at_q169 = true := by decide +kernel
set_option maxRecDepth 1000000 in
theorem lk_t170 : at_chk [] [] 4000 at_q170 = true := by decide +kernel
set_option maxRecDepth 1000000 in
theorem lk_t171 : at_chk [at_q165, at_q170] [at_jt22] 4000 at_q171 = true := by decide +kernel
set_option maxRecDepth 1000000 in
theorem lk_t172 : at_chk [] [at_jt26] 4000 at_q172 = true := by decide +kernel
set_option maxRecDepth 1000000 in
theorem lk_t173 : at_chk [at_q172] [] 4000 at_q173 = true := by decide +kernel
set_option maxRecDepth 1000000 in
theorem lk_t174 : at_chk [at_q171, at_q172, at_q173] [] 4000 at_q174 = true := by decide +kernel
set_option maxRecDepth 1000000 in
theorem lk_t175 : at_chk [at_q165, at_q170] [at_jt27] 4000 at_q175 = true := by decide +kernel

end

/-! 80.nw.lean.txt -/
section
/-! ===== what constructors make: a machine over lists behind a heap that it leaves alone; the kernel runs it ===== -/
/-- what is made: ints, longs (all 0), references, an object -/
abbrev nw_O : Type := (Nat × List Int32) ⊕ (Nat ⊕ ((Nat × Nat × List (Option Nat)) ⊕ (Nat × List Value)))
abbrev nw_H : Type := List nw_O × Nat
def nw_o (o : nw_O) : am_O := match o with
  | .inl q => .inl (0, q.1, .inl (fun i => q.2.getD i 0))
  | .inr (.inl n) => .inl (1, n, .inr (.inl (fun _ => 0)))
  | .inr (.inr (.inl q)) => .inl (q.1, q.2.1, .inr (.inr (.inr (.inr (fun i => q.2.2.getD i none)))))
  | .inr (.inr (.inr q)) => .inr q
def nw_sx {α : Type} (d : α) : Nat → List α → α → List α
  | 0, l, x => x :: l.tail
  | k + 1, l, x => l.headD d :: nw_sx d k l.tail x
theorem nw_sx_get {α : Type} (d x : α) : ∀ (k : Nat) (l : List α) (i : Nat), (nw_sx d k l x).getD i d = if i = k then x else l.getD i d := by
  intro k
  induction k with
  | zero =>
    intro l i
    unfold nw_sx
    cases i with
    | zero => simp
    | succ i => cases l <;> simp
  | succ k ih =>
    intro l i
    unfold nw_sx
    cases i with
    | zero => cases l <;> simp
    | succ i =>
      rw [List.getD_cons_succ, ih]
      cases l <;> simp
def nw_h (B : am_M) (H : nw_H) : am_M := (B.1 ++ H.1.map nw_o, B.2 + H.2)
def nw_at (N : Nat) (H : nw_H) (a : Nat) : Option nw_O := bif Nat.ble N a then H.1[a - N]? else none
def nw_wr (N : Nat) (H : nw_H) (a : Nat) (o : nw_O) : nw_H := (H.1.set (a - N) o, H.2)
theorem nw_at_ok {B : am_M} {H : nw_H} {a : Nat} {o : nw_O} (h : nw_at B.1.length H a = some o) : (nw_h B H).1[a]? = some (nw_o o) ∧ ∀ o', ((nw_h B H).1.set a (nw_o o'), (nw_h B H).2) = nw_h B (nw_wr B.1.length H a o') := by
  unfold nw_at at h
  cases hb : Nat.ble B.1.length a with
  | false => rw [hb] at h; cases h
  | true =>
    rw [hb] at h
    replace h : H.1[a - B.1.length]? = some o := h
    have hle : B.1.length ≤ a := Nat.le_of_ble_eq_true hb
    unfold nw_h nw_wr
    refine ⟨?_, fun o' => ?_⟩
    · rw [List.getElem?_append_right hle, List.getElem?_map, h]
      rfl
    · dsimp only
      rw [List.set_append_right _ _ hle, List.map_set]
def nw_P0 : am_Pg := pw_P 0 (fun _ => 0)
/-- instructions that leave the heap alone -/
def nw_pl (ins : Instr) : Bool := match ins with
  | .iconst _ => true
  | .bipush _ => true
  | .sipush _ => true
  | .ldc _ => true
  | .iload_n _ => true
  | .aload_n _ => true
  | .iload _ => true
  | .aload _ => true
  | .istore_n _ => true
  | .astore_n _ => true
  | .iinc _ _ => true
  | .iadd => true
  | .isub => true
  | .imul => true
  | .dup => true
  | .if_icmp _ _ => true
  | .goto _ => true
  | .getstatic _ => true
  | _ => false
theorem nw_pu_M {n pc : Nat} {lv : am_L} {st : List Value} {M M' : am_M} {o : Option Value} {c : am_C} (h : am_pu n pc lv st M o = some c) : am_pu n pc lv st M' o = some (c.1, c.2.1, c.2.2.1, M') := by
  unfold am_pu at h ⊢
  cases o with
  | none => cases h
  | some v => cases h; rfl
theorem nw_so_M {w n pc i nL : Nat} {lv : am_L} {st : List Value} {M M' : am_M} {c : am_C} (h : am_so w n pc i nL lv st M = some c) : am_so w n pc i nL lv st M' = some (c.1, c.2.1, c.2.2.1, M') := by
  unfold am_so at h ⊢
  cases st with
  | nil => cases h
  | cons v r =>
    dsimp only at h ⊢
    cases hl : am_ld w (some v) with
    | none => rw [hl] at h; cases h
    | some u =>
      rw [hl] at h
      dsimp only at h ⊢
      by_cases h1 : v.category = 2
      · rw [if_pos h1] at h ⊢
        by_cases h2 : i + 1 < nL
        · rw [if_pos h2] at h ⊢; cases h; rfl
        · rw [if_neg h2] at h; cases h
      · rw [if_neg h1] at h ⊢
        by_cases h2 : i < nL
        · rw [if_pos h2] at h ⊢; cases h; rfl
        · rw [if_neg h2] at h; cases h
theorem nw_2_M {pc : Nat} {lv : am_L} {st : List Value} {M M' : am_M} {f : Value → Value → Option Value} {c : am_C} (h : am_2 pc lv st M f = some c) : am_2 pc lv st M' f = some (c.1, c.2.1, c.2.2.1, M') := by
  unfold am_2 at h ⊢
  split at h
  · rename_i y x r
    cases hf : f x y with
    | none => rw [hf] at h; cases h
    | some v => rw [hf] at h; cases h; rfl
  · cases h
theorem nw_pl_ok {L mi pc : Nat} {xs : Nat → Int32} {ins : Instr} {lv : am_L} {st : List Value} {M M' : am_M} {c : am_C} (hp : nw_pl ins = true) (h : am_st nw_P0 mi ins pc lv st M = some c) : am_st (pw_P L xs) mi ins pc lv st M' = some (c.1, c.2.1, c.2.2.1, M') := by
  cases ins <;> first
    | (cases hp; done)
    | (cases h; rfl)
    | exact nw_pu_M h
    | exact nw_so_M h
    | exact nw_2_M h
    | skip
  case ldc i =>
    replace h : (match pw_con (pw_own mi) i with
      | some (.int v) => some (pc + 2, lv, .int v :: st, M)
      | some (.float v) => some (pc + 2, lv, .float v :: st, M)
      | _ => none) = some c := h
    show (match pw_con (pw_own mi) i with
      | some (.int v) => some (pc + 2, lv, Value.int v :: st, M')
      | some (.float v) => some (pc + 2, lv, .float v :: st, M')
      | _ => none) = _
    split at h
    · cases h; rfl
    · cases h; rfl
    · cases h
  case iinc i n =>
    replace h : (match am_lk lv i with
      | some (.int x) => if i < pw_mxl mi then some (pc + 3, am_s1 lv i (.int (x + Int32.ofInt n)), st, M) else none
      | _ => none) = some c := h
    show (match am_lk lv i with
      | some (.int x) => if i < pw_mxl mi then some (pc + 3, am_s1 lv i (.int (x + Int32.ofInt n)), st, M') else none
      | _ => none) = _
    split at h
    · by_cases hi : i < pw_mxl mi
      · rw [if_pos hi] at h ⊢; cases h; rfl
      · rw [if_neg hi] at h; cases h
    · cases h
  case dup =>
    cases st with
    | nil => cases h
    | cons v r =>
      replace h : (if v.category = 1 then some (pc + 1, lv, v :: v :: r, M) else none) = some c := h
      show (if v.category = 1 then some (pc + 1, lv, v :: v :: r, M') else none) = _
      by_cases hi : v.category = 1
      · rw [if_pos hi] at h ⊢; cases h; rfl
      · rw [if_neg hi] at h; cases h
  case if_icmp cd off =>
    obtain ⟨x, y, r, rfl⟩ : ∃ x y r, st = Value.int y :: .int x :: r := by
      cases st with
      | nil => cases h
      | cons v r =>
        cases r with
        | nil => cases v <;> cases h
        | cons w r => cases v <;> cases w <;> first | exact ⟨_, _, _, rfl⟩ | cases h
    replace h : am_br (am_c2 cd x y) pc off lv r M = some c := h
    show am_br (am_c2 cd x y) pc off lv r M' = _
    unfold am_br at h ⊢
    cases ht : am_tg pc off with
    | none => rw [ht] at h; cases h
    | some t =>
      rw [ht] at h
      dsimp only at h ⊢
      cases hb : am_c2 cd x y with
      | false => rw [hb] at h; cases h; rfl
      | true => rw [hb] at h; cases h; rfl
  case goto off =>
    replace h : am_go pc off lv st M = some c := h
    show am_go pc off lv st M' = _
    unfold am_go at h ⊢
    cases ht : am_tg pc off with
    | none => rw [ht] at h; cases h
    | some t => rw [ht] at h; cases h; rfl
  case getstatic i =>
    replace h : (match pw_sta (pw_own mi) i with
      | some k => some (pc + 3, lv, .retAddr k :: st, M)
      | none => none) = some c := h
    show (match pw_sta (pw_own mi) i with
      | some k => some (pc + 3, lv, Value.retAddr k :: st, M')
      | none => none) = _
    cases hs : pw_sta (pw_own mi) i with
    | none => rw [hs] at h; cases h
    | some t => rw [hs] at h; cases h; rfl

end

/-! 81.nwst.lean.txt -/
section
/-! ===== a step of that machine ===== -/
abbrev nw_C : Type := Nat × am_L × List Value × nw_H
def nw_gf (N own i pc : Nat) (lv : am_L) (st : List Value) (H : nw_H) : Option nw_C := match st with
  | .ref a :: r => match pw_fld own i, nw_at N H a with
    | some (ci, k), some (.inr (.inr (.inr (cj, fs)))) => if ci = cj then (match fs[k]? with
      | some v => some (pc + 3, lv, v :: r, H)
      | none => none) else none
    | _, _ => none
  | _ => none
def nw_pf (N mi own i pc : Nat) (lv : am_L) (st : List Value) (H : nw_H) : Option nw_C := match st with
  | v :: .ref a :: r => match pw_fld own i, nw_at N H a with
    | some (ci, k), some (.inr (.inr (.inr (cj, fs)))) => bif decide (ci = cj) && (decide (k < fs.length) && (am_ft (pw_fty ci k) v && (!pw_fin ci k || (pw_ini mi && decide (own = ci))))) then some (pc + 3, lv, r, nw_wr N H a (.inr (.inr (.inr (cj, fs.set k v))))) else none
    | _, _ => none
  | _ => none
def nw_ald (N pc : Nat) (lv : am_L) (st : List Value) (H : nw_H) : Option nw_C := match st with
  | .int i :: .ref a :: r => match nw_at N H a with
    | some (.inl (n, l)) => bif am_in i n then some (pc + 1, lv, .int (l.getD i.toNatClampNeg 0) :: r, H) else none
    | _ => none
  | .int i :: .retAddr (k + 1) :: r => bif decide (k < pw_tab_l.length) && am_in i (pw_tab_l.getD k []).length then some (pc + 1, lv, .int (pw_tbl k i.toNatClampNeg) :: r, H) else none
  | _ => none
def nw_ast (N pc : Nat) (lv : am_L) (st : List Value) (H : nw_H) : Option nw_C := match st with
  | .int x :: .int i :: .ref a :: r => match nw_at N H a with
    | some (.inl (n, l)) => bif am_in i n then some (pc + 1, lv, r, nw_wr N H a (.inl (n, nw_sx 0 i.toNatClampNeg l x))) else none
    | _ => none
  | _ => none
def nw_qast (N pc : Nat) (lv : am_L) (st : List Value) (H : nw_H) : Option nw_C := match st with
  | .ref v :: .int i :: .ref a :: r => match nw_at N H a, nw_at N H v with
    | some (.inr (.inr (.inl (t, n, l)))), some (.inr (.inr (.inr (cj, _)))) => bif decide (2 ≤ t ∧ t < 5) && (decide (pw_elt t = cj) && am_in i n) then some (pc + 1, lv, r, nw_wr N H a (.inr (.inr (.inl (t, n, nw_sx none i.toNatClampNeg l (some v)))))) else none
    | _, _ => none
  | _ => none
def nw_len (N pc : Nat) (lv : am_L) (st : List Value) (H : nw_H) : Option nw_C := match st with
  | .ref a :: r => match nw_at N H a with
    | some (.inl (n, _)) => some (pc + 1, lv, .int (Int32.ofNat n) :: r, H)
    | _ => none
  | _ => none
def nw_na (N : Nat) (t : ArrayType) (pc : Nat) (lv : am_L) (st : List Value) (H : nw_H) : Option nw_C := match t, st with
  | .int, .int n :: r => bif !(decide (n < 0)) && decide (n.toNatClampNeg ≤ 1000000) then some (pc + 2, lv, .ref (N + H.1.length) :: r, (H.1 ++ [.inl (n.toNatClampNeg, [])], H.2 + n.toNatClampNeg)) else none
  | .long, .int n :: r => bif !(decide (n < 0)) && decide (n.toNatClampNeg ≤ 1000000) then some (pc + 2, lv, .ref (N + H.1.length) :: r, (H.1 ++ [.inr (.inl n.toNatClampNeg)], H.2 + n.toNatClampNeg)) else none
  | _, _ => none
def nw_nq (N own i pc : Nat) (lv : am_L) (st : List Value) (H : nw_H) : Option nw_C := match pw_anw own i, st with
  | some t, .int n :: r => bif !(decide (n < 0)) && decide (n.toNatClampNeg ≤ 1000000) then some (pc + 3, lv, .ref (N + H.1.length) :: r, (H.1 ++ [.inr (.inr (.inl (t, n.toNatClampNeg, [])))], H.2 + n.toNatClampNeg)) else none
  | _, _ => none
def nw_nw (N own i pc : Nat) (lv : am_L) (st : List Value) (H : nw_H) : Option nw_C := match pw_new own i with
  | some q => some (pc + 3, lv, .ref (N + H.1.length) :: st, (H.1 ++ [.inr (.inr (.inr q))], H.2 + q.2.length))
  | none => none
def nw_ck (N pc : Nat) (lv : am_L) (st : List Value) (H : nw_H) : Option nw_C := match st with
  | .ref a :: r => match nw_at N H a with
    | some (.inl _) => some (pc + 3, lv, .ref a :: r, H)
    | _ => none
  | _ => none
def nw_n0 (pc : Nat) (lv : am_L) (st : List Value) (H : nw_H) : Option nw_C := match st with
  | .ref _ :: r => if am_sum r ≤ 8 then some (pc + 3, lv, r, H) else none
  | _ => none
def nw_n2 (N pc : Nat) (lv : am_L) (st : List Value) (H : nw_H) : Option nw_C := match st with
  | .retAddr (k + 1) :: r => bif decide (k < pw_tab_l.length) && decide (am_sum r ≤ 8) then some (pc + 3, lv, .ref (N + H.1.length) :: r, (H.1 ++ [.inl ((pw_tab_l.getD k []).length, pw_tab_l.getD k [])], H.2 + (pw_tab_l.getD k []).length)) else none
  | _ => none
def nw_st (N mi : Nat) (ins : Instr) (pc : Nat) (lv : am_L) (st : List Value) (H : nw_H) : Option nw_C := match ins with
  | .getfield i => nw_gf N (pw_own mi) i pc lv st H
  | .putfield i => nw_pf N mi (pw_own mi) i pc lv st H
  | .iaload => nw_ald N pc lv st H
  | .iastore => nw_ast N pc lv st H
  | .aastore => nw_qast N pc lv st H
  | .arraylength => nw_len N pc lv st H
  | .new i => nw_nw N (pw_own mi) i pc lv st H
  | .newarray t => nw_na N t pc lv st H
  | .anewarray i => nw_nq N (pw_own mi) i pc lv st H
  | .checkcast _ => nw_ck N pc lv st H
  | .invokespecial _ => (match am_ntk nw_P0 mi ins with
    | some 0 => nw_n0 pc lv st H
    | _ => none)
  | .invokevirtual _ => (match am_ntk nw_P0 mi ins with
    | some 2 => nw_n2 N pc lv st H
    | _ => none)
  | _ => bif nw_pl ins then (match am_st nw_P0 mi ins pc lv st ([], 0) with
    | some c => some (c.1, c.2.1, c.2.2.1, H)
    | none => none) else none
section NWT
variable {B : am_M} {L mi own i pc pc' : Nat} {xs : Nat → Int32} {lv lv' : am_L} {st st' : List Value} {H H' : nw_H}
theorem nw_app (o : nw_O) (n : Nat) : ((nw_h B H).1 ++ [nw_o o], (nw_h B H).2 + n) = nw_h B (H.1 ++ [o], H.2 + n) := by
  unfold nw_h
  simp [List.append_assoc, Nat.add_assoc]
theorem nw_hlen : (nw_h B H).1.length = B.1.length + H.1.length := by
  unfold nw_h
  simp
theorem nw_gf_ok (h : nw_gf B.1.length (pw_own mi) i pc lv st H = some (pc', lv', st', H')) : am_gf (pw_P L xs) (pw_own mi) i pc lv st (nw_h B H) = some (pc', lv', st', nw_h B H') := by
  unfold nw_gf at h
  split at h
  · rename_i a r
    split at h
    · rename_i ci k cj fs e1 e2
      have e3 := (nw_at_ok e2).1
      show ((match pw_fld (pw_own mi) i, (nw_h B H).1[a]? with
        | some (ci, k), some (.inr (cj, fs)) => if ci = cj then am_pu 3 pc lv r (nw_h B H) fs[k]? else none
        | _, _ => none) : Option am_C) = _
      rw [e1, e3]
      show ((if ci = cj then am_pu 3 pc lv r (nw_h B H) fs[k]? else none) : Option am_C) = _
      by_cases hc : ci = cj
      · rw [if_pos hc] at h ⊢
        cases hf : fs[k]? with
        | none => rw [hf] at h; cases h
        | some v => rw [hf] at h; cases h; rfl
      · rw [if_neg hc] at h; cases h
    · cases h
  · cases h
theorem nw_pf_ok (h : nw_pf B.1.length mi (pw_own mi) i pc lv st H = some (pc', lv', st', H')) : am_pf (pw_P L xs) mi (pw_own mi) i pc lv st (nw_h B H) = some (pc', lv', st', nw_h B H') := by
  unfold nw_pf at h
  split at h
  · rename_i v a r
    split at h
    · rename_i ci k cj fs e1 e2
      obtain ⟨e3, e4⟩ := nw_at_ok e2
      show ((match pw_fld (pw_own mi) i, (nw_h B H).1[a]? with
        | some (ci, k), some (.inr (cj, fs)) => bif decide (ci = cj) && (decide (k < fs.length) && (am_ft (pw_fty ci k) v && (!pw_fin ci k || (pw_ini mi && decide (pw_own mi = ci))))) then some (pc + 3, lv, r, ((nw_h B H).1.set a (.inr (cj, fs.set k v)), (nw_h B H).2)) else none
        | _, _ => none) : Option am_C) = _
      rw [e1, e3]
      obtain ⟨hb, h⟩ := am_bif h
      show ((bif decide (ci = cj) && (decide (k < fs.length) && (am_ft (pw_fty ci k) v && (!pw_fin ci k || (pw_ini mi && decide (pw_own mi = ci))))) then some (pc + 3, lv, r, ((nw_h B H).1.set a (.inr (cj, fs.set k v)), (nw_h B H).2)) else none) : Option am_C) = _
      rw [hb]
      cases h
      show (some (_, _, _, ((nw_h B H).1.set a (nw_o (.inr (.inr (.inr (cj, fs.set k v))))), (nw_h B H).2)) : Option am_C) = _
      rw [e4]
    · cases h
  · cases h
theorem nw_ald_ok (h : nw_ald B.1.length pc lv st H = some (pc', lv', st', H')) : am_ald (pw_P L xs) pc lv st (nw_h B H) = some (pc', lv', st', nw_h B H') := by
  unfold nw_ald at h
  split at h
  · rename_i j a r
    split at h
    · rename_i n l e2
      obtain ⟨e3, e4⟩ := nw_at_ok e2
      show ((match (nw_h B H).1[a]? with
        | some (.inl (0, n, .inl f)) => bif am_in j n then some (pc + 1, lv, .int (f j.toNatClampNeg) :: r, nw_h B H) else none
        | _ => none) : Option am_C) = _
      rw [e3]
      obtain ⟨hb, h⟩ := am_bif h
      show ((bif am_in j n then some (pc + 1, lv, Value.int (l.getD j.toNatClampNeg 0) :: r, nw_h B H) else none) : Option am_C) = _
      rw [hb]
      cases h
      rfl
    · cases h
  · rename_i j k r
    obtain ⟨hb, h⟩ := am_bif h
    simp only [Bool.and_eq_true, decide_eq_true_eq] at hb
    show ((match (if k < pw_tab_l.length then some ((pw_tab_l.getD k []).length, pw_tbl k) else none) with
      | some (n, f) => bif am_in j n then some (pc + 1, lv, Value.int (f j.toNatClampNeg) :: r, nw_h B H) else none
      | _ => none) : Option am_C) = _
    rw [if_pos hb.1]
    show ((bif am_in j (pw_tab_l.getD k []).length then some (pc + 1, lv, Value.int (pw_tbl k j.toNatClampNeg) :: r, nw_h B H) else none) : Option am_C) = _
    rw [hb.2]
    cases h
    rfl
  · cases h
theorem nw_ast_ok (h : nw_ast B.1.length pc lv st H = some (pc', lv', st', H')) : am_ast pc lv st (nw_h B H) = some (pc', lv', st', nw_h B H') := by
  unfold nw_ast at h
  split at h
  · rename_i x j a r
    split at h
    · rename_i n l e2
      obtain ⟨e3, e4⟩ := nw_at_ok e2
      show ((match (nw_h B H).1[a]? with
        | some (.inl (0, n, .inl f)) => bif am_in j n then some (pc + 1, lv, r, ((nw_h B H).1.set a (.inl (0, n, .inl (upd f j.toNatClampNeg x))), (nw_h B H).2)) else none
        | _ => none) : Option am_C) = _
      rw [e3]
      obtain ⟨hb, h⟩ := am_bif h
      show ((bif am_in j n then some (pc + 1, lv, r, ((nw_h B H).1.set a (.inl (0, n, .inl (upd (fun i => l.getD i 0) j.toNatClampNeg x))), (nw_h B H).2)) else none) : Option am_C) = _
      rw [hb]
      cases h
      have e5 : upd (fun i => l.getD i 0) j.toNatClampNeg x = fun i => (nw_sx 0 j.toNatClampNeg l x).getD i 0 := by
        funext i
        rw [nw_sx_get]
        rfl
      rw [e5]
      show (some (_, _, _, ((nw_h B H).1.set a (nw_o (.inl (n, nw_sx 0 j.toNatClampNeg l x))), (nw_h B H).2)) : Option am_C) = _
      rw [e4]
    · cases h
  · cases h
theorem nw_qast_ok (h : nw_qast B.1.length pc lv st H = some (pc', lv', st', H')) : am_qast (pw_P L xs) pc lv st (nw_h B H) = some (pc', lv', st', nw_h B H') := by
  unfold nw_qast at h
  split at h
  · rename_i v j a r
    split at h
    · rename_i t n l cj fs e2 e2'
      obtain ⟨e3, e4⟩ := nw_at_ok e2
      obtain ⟨e3', -⟩ := nw_at_ok e2'
      show ((match (nw_h B H).1[a]?, (nw_h B H).1[v]? with
        | some (.inl (t, n, .inr (.inr (.inr (.inr f))))), some (.inr (cj, _)) => bif decide (2 ≤ t ∧ t < 5) && (decide (pw_elt t = cj) && am_in j n) then some (pc + 1, lv, r, ((nw_h B H).1.set a (.inl (t, n, .inr (.inr (.inr (.inr (va_up f j.toNatClampNeg (some v))))))), (nw_h B H).2)) else none
        | _, _ => none) : Option am_C) = _
      rw [e3, e3']
      obtain ⟨hb, h⟩ := am_bif h
      show ((bif decide (2 ≤ t ∧ t < 5) && (decide (pw_elt t = cj) && am_in j n) then some (pc + 1, lv, r, ((nw_h B H).1.set a (.inl (t, n, .inr (.inr (.inr (.inr (va_up (fun i => l.getD i none) j.toNatClampNeg (some v))))))), (nw_h B H).2)) else none) : Option am_C) = _
      rw [hb]
      cases h
      have e5 : va_up (fun i => l.getD i none) j.toNatClampNeg (some v) = fun i => (nw_sx none j.toNatClampNeg l (some v)).getD i none := by
        funext i
        rw [nw_sx_get]
        rfl
      rw [e5]
      show (some (_, _, _, ((nw_h B H).1.set a (nw_o (.inr (.inr (.inl (t, n, nw_sx none j.toNatClampNeg l (some v)))))), (nw_h B H).2)) : Option am_C) = _
      rw [e4]
    · cases h
  · cases h
theorem nw_len_ok (h : nw_len B.1.length pc lv st H = some (pc', lv', st', H')) : am_len (pw_P L xs) pc lv st (nw_h B H) = some (pc', lv', st', nw_h B H') := by
  unfold nw_len at h
  split at h
  · rename_i a r
    split at h
    · rename_i n l e2
      obtain ⟨e3, -⟩ := nw_at_ok e2
      show ((match (nw_h B H).1[a]? with
        | some (.inl (t, n, _)) => if t < 5 then some (pc + 1, lv, .int (Int32.ofNat n) :: r, nw_h B H) else none
        | _ => none) : Option am_C) = _
      rw [e3]
      cases h
      rfl
    · cases h
  · cases h
theorem nw_na_ok {t : ArrayType} (h : nw_na B.1.length t pc lv st H = some (pc', lv', st', H')) : am_na t pc lv st (nw_h B H) = some (pc', lv', st', nw_h B H') := by
  unfold nw_na at h
  split at h
  · rename_i n r
    obtain ⟨hb, h⟩ := am_bif h
    show ((bif !(decide (n < 0)) && decide (n.toNatClampNeg ≤ 1000000) then some (pc + 2, lv, Value.ref (nw_h B H).1.length :: r, ((nw_h B H).1 ++ [.inl (0, n.toNatClampNeg, .inl (fun _ => 0))], (nw_h B H).2 + n.toNatClampNeg)) else none) : Option am_C) = _
    rw [hb]
    cases h
    have e : (fun _ => 0 : Nat → Int32) = fun i => ([] : List Int32).getD i 0 := rfl
    rw [nw_hlen, e]
    show (some (_, _, _ :: _, ((nw_h B H).1 ++ [nw_o (.inl (n.toNatClampNeg, []))], _)) : Option am_C) = _
    rw [nw_app]
  · rename_i n r
    obtain ⟨hb, h⟩ := am_bif h
    show ((bif !(decide (n < 0)) && decide (n.toNatClampNeg ≤ 1000000) then some (pc + 2, lv, Value.ref (nw_h B H).1.length :: r, ((nw_h B H).1 ++ [.inl (1, n.toNatClampNeg, .inr (.inl (fun _ => 0)))], (nw_h B H).2 + n.toNatClampNeg)) else none) : Option am_C) = _
    rw [hb]
    cases h
    rw [nw_hlen]
    show (some (_, _, _ :: _, ((nw_h B H).1 ++ [nw_o (.inr (.inl n.toNatClampNeg))], _)) : Option am_C) = _
    rw [nw_app]
  · cases h
theorem nw_nq_ok (h : nw_nq B.1.length (pw_own mi) i pc lv st H = some (pc', lv', st', H')) : am_nq (pw_P L xs) (pw_own mi) i pc lv st (nw_h B H) = some (pc', lv', st', nw_h B H') := by
  unfold nw_nq at h
  split at h
  · rename_i t n r e1
    obtain ⟨hb, h⟩ := am_bif h
    show ((match pw_anw (pw_own mi) i, (Value.int n :: r) with
      | some t, .int n :: r => bif !(decide (n < 0)) && decide (n.toNatClampNeg ≤ 1000000) then some (pc + 3, lv, .ref (nw_h B H).1.length :: r, ((nw_h B H).1 ++ [.inl (t, n.toNatClampNeg, .inr (.inr (.inr (.inr (fun _ => none)))))], (nw_h B H).2 + n.toNatClampNeg)) else none
      | _, _ => none) : Option am_C) = _
    rw [e1]
    show ((bif !(decide (n < 0)) && decide (n.toNatClampNeg ≤ 1000000) then some (pc + 3, lv, Value.ref (nw_h B H).1.length :: r, ((nw_h B H).1 ++ [.inl (t, n.toNatClampNeg, .inr (.inr (.inr (.inr (fun _ => none)))))], (nw_h B H).2 + n.toNatClampNeg)) else none) : Option am_C) = _
    rw [hb]
    cases h
    rw [nw_hlen]
    show (some (_, _, _ :: _, ((nw_h B H).1 ++ [nw_o (.inr (.inr (.inl (t, n.toNatClampNeg, []))))], _)) : Option am_C) = _
    rw [nw_app]
  · cases h
theorem nw_nw_ok (h : nw_nw B.1.length (pw_own mi) i pc lv st H = some (pc', lv', st', H')) : am_nw (pw_P L xs) (pw_own mi) i pc lv st (nw_h B H) = some (pc', lv', st', nw_h B H') := by
  unfold nw_nw at h
  show ((match pw_new (pw_own mi) i with
    | some (ci, fs) => some (pc + 3, lv, .ref (nw_h B H).1.length :: st, ((nw_h B H).1 ++ [.inr (ci, fs)], (nw_h B H).2 + fs.length))
    | none => none) : Option am_C) = _
  cases e1 : pw_new (pw_own mi) i with
  | none => rw [e1] at h; cases h
  | some q =>
    rw [e1] at h
    cases h
    obtain ⟨ci, fs⟩ := q
    rw [nw_hlen]
    show (some (_, _, _ :: _, ((nw_h B H).1 ++ [nw_o (.inr (.inr (.inr (ci, fs))))], _)) : Option am_C) = _
    rw [nw_app]
theorem nw_ck_ok (h : nw_ck B.1.length pc lv st H = some (pc', lv', st', H')) : am_st (pw_P L xs) mi (.checkcast i) pc lv st (nw_h B H) = some (pc', lv', st', nw_h B H') := by
  unfold nw_ck at h
  split at h
  · rename_i a r
    split at h
    · rename_i q e2
      obtain ⟨e3, -⟩ := nw_at_ok e2
      show ((match (nw_h B H).1[a]? with
        | some (.inl (0, _)) => some (pc + 3, lv, .ref a :: r, nw_h B H)
        | _ => none) : Option am_C) = _
      rw [e3]
      cases h
      rfl
    · cases h
  · cases h
theorem nw_n0_ok (h : nw_n0 pc lv st H = some (pc', lv', st', H')) : am_n0 pc lv st (nw_h B H) = some (pc', lv', st', nw_h B H') := by
  unfold nw_n0 at h
  split at h
  · rename_i a r
    show ((if am_sum r ≤ 8 then some (pc + 3, lv, r, nw_h B H) else none) : Option am_C) = _
    by_cases hs : am_sum r ≤ 8
    · rw [if_pos hs] at h ⊢; cases h; rfl
    · rw [if_neg hs] at h; cases h
  · cases h
theorem nw_n2_ok (h : nw_n2 B.1.length pc lv st H = some (pc', lv', st', H')) : am_n2 (pw_P L xs) pc lv st (nw_h B H) = some (pc', lv', st', nw_h B H') := by
  unfold nw_n2 at h
  split at h
  · rename_i k r
    obtain ⟨hb, h⟩ := am_bif h
    simp only [Bool.and_eq_true, decide_eq_true_eq] at hb
    show ((match (if k < pw_tab_l.length then some ((pw_tab_l.getD k []).length, pw_tbl k) else none) with
      | some (n, f) => if am_sum r ≤ 8 ∧ k + 1 ≠ 0 then some (pc + 3, lv, Value.ref (nw_h B H).1.length :: r, ((nw_h B H).1 ++ [.inl (0, n, .inl f)], (nw_h B H).2 + n)) else none
      | none => none) : Option am_C) = _
    rw [if_pos hb.1]
    show ((if am_sum r ≤ 8 ∧ k + 1 ≠ 0 then some (pc + 3, lv, Value.ref (nw_h B H).1.length :: r, ((nw_h B H).1 ++ [nw_o (.inl ((pw_tab_l.getD k []).length, pw_tab_l.getD k []))], (nw_h B H).2 + (pw_tab_l.getD k []).length)) else none) : Option am_C) = _
    rw [if_pos ⟨hb.2, Nat.succ_ne_zero k⟩, nw_hlen, nw_app]
    cases h
    rfl
  · cases h
theorem nw_st_ok {ins : Instr} (h : nw_st B.1.length mi ins pc lv st H = some (pc', lv', st', H')) : am_st (pw_P L xs) mi ins pc lv st (nw_h B H) = some (pc', lv', st', nw_h B H') := by
  cases ins <;> first
    | exact nw_gf_ok h
    | exact nw_pf_ok h
    | exact nw_ald_ok h
    | exact nw_ast_ok h
    | exact nw_qast_ok h
    | exact nw_len_ok h
    | exact nw_nw_ok h
    | exact nw_na_ok h
    | exact nw_nq_ok h
    | exact nw_ck_ok h
    | (cases h; done)
    | skip
  case invokespecial i =>
    replace h : ((match am_ntk nw_P0 mi (.invokespecial i) with
      | some 0 => nw_n0 pc lv st H
      | _ => none) : Option nw_C) = some (pc', lv', st', H') := h
    show ((match am_ntk (pw_P L xs) mi (.invokespecial i) with
      | some k => am_nt (pw_P L xs) k pc lv st (nw_h B H)
      | none => none) : Option am_C) = _
    split at h
    · rename_i e
      have e : am_ntk (pw_P L xs) mi (.invokespecial i) = some 0 := e
      rw [e]
      exact nw_n0_ok h
    · cases h
  case invokevirtual i =>
    replace h : ((match am_ntk nw_P0 mi (.invokevirtual i) with
      | some 2 => nw_n2 B.1.length pc lv st H
      | _ => none) : Option nw_C) = some (pc', lv', st', H') := h
    show ((match am_ntk (pw_P L xs) mi (.invokevirtual i) with
      | some k => am_nt (pw_P L xs) k pc lv st (nw_h B H)
      | none => none) : Option am_C) = _
    split at h
    · rename_i e
      have e : am_ntk (pw_P L xs) mi (.invokevirtual i) = some 2 := e
      rw [e]
      exact nw_n2_ok h
    · cases h
  all_goals
    unfold nw_st at h
    obtain ⟨hp, h⟩ := am_bif h
    split at h
    · rename_i c e
      cases h
      exact nw_pl_ok hp e
    · cases h
end NWT

end

/-! 82.nwev.lean.txt -/
section
/-! ===== its runs: a whole call, a stretch up to a place ===== -/
def nw_rv (N mj : Nat) (as_ : List Value) (H : nw_H) : Bool := match as_ with
  | .ref a :: _ => match nw_at N H a with
    | some (.inr (.inr (.inr (cj, _)))) => decide (cj = pw_own mj)
    | _ => false
  | _ => false
def nw_rc (N : Nat) (ins : Instr) (mj n : Nat) (st : List Value) (H : nw_H) : Bool :=
  decide (n ≤ st.length) && (decide (am_sum (st.drop n) ≤ 8 ∧ am_sum (st.take n) ≤ pw_mxl mj) && (match ins with
  | .invokestatic _ => true
  | .invokespecial _ => am_rs (st.take n).reverse
  | .invokevirtual _ => nw_rv N mj (st.take n).reverse H
  | _ => false))
def nw_ev (N : Nat) : Nat → Nat → Nat → am_L → List Value → nw_H → Option (Option Value × nw_H)
  | 0, _, _, _, _, _ => none
  | f + 1, mi, pc, lv, st, H => match pw_code mi pc with
    | none => none
    | some ins => match am_cl nw_P0 mi ins with
      | some (mj, n) => bif nw_rc N ins mj n st H then (match nw_ev N f mj 0 (lv_args 0 (st.take n).reverse) [] H with
          | some (v, H') => nw_ev N f mi (pc + 3) lv (v.toList ++ st.drop n) H'
          | none => none) else none
      | none => match am_rt nw_P0 mi ins st with
        | some v => some (v, H)
        | none => match nw_st N mi ins pc lv st H with
          | some c => nw_ev N f mi c.1 c.2.1 c.2.2.1 c.2.2.2
          | none => none
def nw_to (N mi stop : Nat) : Nat → Nat → am_L → List Value → nw_H → Option (am_L × List Value × nw_H)
  | 0, _, _, _, _ => none
  | f + 1, pc, lv, st, H => bif Nat.beq pc stop then some (lv, st, H) else match pw_code mi pc with
    | none => none
    | some ins => match am_cl nw_P0 mi ins with
      | some (mj, n) => bif nw_rc N ins mj n st H then (match nw_ev N f mj 0 (lv_args 0 (st.take n).reverse) [] H with
          | some (v, H') => nw_to N mi stop f (pc + 3) lv (v.toList ++ st.drop n) H'
          | none => none) else none
      | none => match am_rt nw_P0 mi ins st with
        | some _ => none
        | none => match nw_st N mi ins pc lv st H with
          | some c => nw_to N mi stop f c.1 c.2.1 c.2.2.1 c.2.2.2
          | none => none
section NWE
variable {B : am_M} {L : Nat} {xs : Nat → Int32}
theorem nw_rc_ok {mi mj n : Nat} {ins : Instr} {st : List Value} {H : nw_H} (h : nw_rc B.1.length ins mj n st H = true) : am_rc (pw_P L xs) mi ins mj n st (nw_h B H) = true := by
  unfold nw_rc at h
  unfold am_rc
  simp only [Bool.and_eq_true] at h ⊢
  obtain ⟨h1, h2, h3⟩ := h
  refine ⟨h1, h2, ?_⟩
  cases ins <;> first
    | exact h3
    | skip
  case invokevirtual i =>
    replace h3 : nw_rv B.1.length mj (st.take n).reverse H = true := h3
    show am_rv (pw_P L xs) mj (st.take n).reverse (nw_h B H) = true
    unfold nw_rv at h3
    split at h3
    · rename_i a r er
      split at h3
      · rename_i cj fs e2
        obtain ⟨e3, -⟩ := nw_at_ok e2
        rw [er]
        show (match (nw_h B H).1[a]? with
          | some (.inr (cj, _)) => decide (cj = pw_own mj)
          | _ => false) = true
        rw [e3]
        exact h3
      · cases h3
    · cases h3
theorem nw_ev_ok : ∀ (f mi pc : Nat) (lv : am_L) (st : List Value) (H : nw_H) (v : Option Value) (H' : nw_H), nw_ev B.1.length f mi pc lv st H = some (v, H') → am_ev (pw_P L xs) f mi pc lv st (nw_h B H) = some (v, nw_h B H') := by
  intro f
  induction f with
  | zero => intro mi pc lv st H v H' h; cases h
  | succ f ih =>
    intro mi pc lv st H v H' h
    rw [am_ev_s]
    unfold nw_ev at h
    unfold am_e1
    show (match pw_code mi pc with
      | none => none
      | some ins => match am_cl nw_P0 mi ins with
        | some (mj, n) => bif am_rc (pw_P L xs) mi ins mj n st (nw_h B H) then (match am_ev (pw_P L xs) f mj 0 (lv_args 0 (st.take n).reverse) [] (nw_h B H) with
            | some (v, M') => am_ev (pw_P L xs) f mi (pc + 3) lv (v.toList ++ st.drop n) M'
            | none => none) else none
        | none => match am_rt nw_P0 mi ins st with
          | some v => some (v, nw_h B H)
          | none => match am_st (pw_P L xs) mi ins pc lv st (nw_h B H) with
            | some (pc', lv', st', M') => am_ev (pw_P L xs) f mi pc' lv' st' M'
            | none => none) = _
    cases hc : pw_code mi pc with
    | none => rw [hc] at h; cases h
    | some ins =>
      rw [hc] at h
      dsimp only at h ⊢
      cases hcl : am_cl nw_P0 mi ins with
      | some q =>
        obtain ⟨mj, n⟩ := q
        rw [hcl] at h
        dsimp only at h ⊢
        obtain ⟨h1, h2⟩ := am_bif h
        clear h
        rw [nw_rc_ok (L := L) (xs := xs) (mi := mi) h1]
        dsimp only [cond_true]
        cases h3 : nw_ev B.1.length f mj 0 (lv_args 0 (st.take n).reverse) [] H with
        | none => rw [h3] at h2; cases h2
        | some q =>
          obtain ⟨v1, H1⟩ := q
          rw [h3] at h2
          rw [ih _ _ _ _ _ _ _ h3]
          exact ih _ _ _ _ _ _ _ h2
      | none =>
        rw [hcl] at h
        dsimp only at h ⊢
        cases hrt : am_rt nw_P0 mi ins st with
        | some v1 =>
          rw [hrt] at h
          cases h
          rfl
        | none =>
          rw [hrt] at h
          dsimp only at h ⊢
          cases hst : nw_st B.1.length mi ins pc lv st H with
          | none => rw [hst] at h; cases h
          | some q =>
            obtain ⟨p1, l1, s1, m1⟩ := q
            rw [hst] at h
            rw [nw_st_ok (L := L) (xs := xs) hst]
            exact ih _ _ _ _ _ _ _ h
theorem nw_to_ok {mi stop : Nat} {Q : Option Value → am_M → Prop} : ∀ (f pc : Nat) (lv : am_L) (st : List Value) (H : nw_H) (lv' : am_L) (st' : List Value) (H' : nw_H), nw_to B.1.length mi stop f pc lv st H = some (lv', st', H') → am_To (pw_P L xs) mi stop lv' st' (nw_h B H') Q → am_To (pw_P L xs) mi pc lv st (nw_h B H) Q := by
  intro f
  induction f with
  | zero => intro pc lv st H lv' st' H' h; cases h
  | succ f ih =>
    intro pc lv st H lv' st' H' h k
    unfold nw_to at h
    cases hs : Nat.beq pc stop with
    | true =>
      rw [hs] at h
      cases h
      rw [Nat.eq_of_beq_eq_true hs]
      exact k
    | false =>
      rw [hs] at h
      dsimp only [cond_false] at h
      cases hc : pw_code mi pc with
      | none => rw [hc] at h; cases h
      | some ins =>
        rw [hc] at h
        dsimp only at h
        cases hcl : am_cl nw_P0 mi ins with
        | some q =>
          obtain ⟨mj, n⟩ := q
          rw [hcl] at h
          dsimp only at h
          obtain ⟨h1, h2⟩ := am_bif h
          clear h
          cases h3 : nw_ev B.1.length f mj 0 (lv_args 0 (st.take n).reverse) [] H with
          | none => rw [h3] at h2; cases h2
          | some q =>
            obtain ⟨v1, H1⟩ := q
            rw [h3] at h2
            exact am_To.cal (P := pw_P L xs) hc hcl (nw_rc_ok h1) ⟨f, v1, nw_h B H1, nw_ev_ok _ _ _ _ _ _ _ _ h3, ih _ _ _ _ _ _ _ h2 k⟩
        | none =>
          rw [hcl] at h
          dsimp only at h
          cases hrt : am_rt nw_P0 mi ins st with
          | some v1 => rw [hrt] at h; cases h
          | none =>
            rw [hrt] at h
            dsimp only at h
            cases hst : nw_st B.1.length mi ins pc lv st H with
            | none => rw [hst] at h; cases h
            | some q =>
              obtain ⟨p1, l1, s1, m1⟩ := q
              rw [hst] at h
              exact am_To.stp (P := pw_P L xs) hc hcl hrt (nw_st_ok hst) (ih _ _ _ _ _ _ _ h k)
end NWE

end

/-! 83.words.lean.txt -/
section
/-! ===== printed by wip/gen/made.py: the words that the constructors leave ===== -/
/-- a fresh state, by its places -/
def at_w0l : List (List Int32) := [[0, 0, 0, 0, 0, 0, 0, 0, 0, 0, 0, 250], [], [], [4200, 2900, 600, 0, 50000, 200, 250, 0, 20, 9999, 500, 0, 100, 4, 10, 500, 90, 900, 0, 10, 0, 10, 0, 0, 0, 0, 0, 0, 0, 1], [], [], [], [], [], [], [-1, -1, -1, -1, -1, -1, -1, -1, -1, -1, -1], [-1, -1, -1, -1], [24], [], [], [32]]
/-- behind the states -/
def at_i0l : List (List Int32) := [[], [], [], [], [], [], [], [3000, 4500, 4200, 2000, 3700, 2900, 200, 900, 600, -400, 200, 0, 1, 99999, 50000, 1, 999, 200, -400, 600, 250, 0, 9999, 0, 0, 9999, 20, 0, 99999, 9999, 0, 9999, 500, 0, 2, 0, 0, 9999, 100, 0, 16, 4, 0, 999, 10, 0, 99999, 500, 0, 100, 90, 1, 2000, 900, -999, 999, 0, 1, 99, 10, -99999, 99999, 0, 1, 99, 10, 0, 64, 0, 0, 4500, 0, 0, 9999, 0, 0, 99, 0, 0, 200, 0, 0, 999, 0, 0, 999, 0, 0, 1, 1], [3000, 3450, 3550, 3600, 3650, 3700, 3760, 3840, 3930, 4040, 4200], [0, 0, 0, 0, 0, 0, 0, 0, 250, 0, 0, 0, 0, 0, 0, 0, 0, 0, 0, 0, 0, 0, 0, -1, -1, -1, -1, -1, -1, -1, -1, -1, -1, -1, 4200, 2900, 600, 0, 50000, 200, 250, 0, 20, 9999, 500, 0, 100, 4, 10, 500, 90, 900, 0, 10, 0, 10, 0, 0, 0, 0, 0, 0, 0, 1, 0, 0, 0, 0, 0, 0, 0, 0, 0, 0, 0, 0, 0, 0, 0, 0, 0, 0, 0, 0, 0, 0, 0, 0, 0, 0, 0, 0, 0, 0, 0, 0, 0, 0, 0, 0, 0, 0, 0, 0, 0, 0, 0, 0, 0, 0, 0, 0, 0, 0, 0, 0, 0, 0, 0, 0, 0, 0, 0, 0, 0, 0, 0, 0, 0, 0, 0, 0, 0, 0, 0, 0, 0, 0, 0, 0, 0, 0, 0, 0, 0, 0, 0, 0, 0, 0, 0, 0, 0, 0, 0, 0, 0, 0, 0, 0, 0, 0, 0, 0, 0, 0, 0, 0, 0, 0, 0, 0, 0, 0, 0, 0, 0, 0, 0, 0, 0, 0, 0, 0, 0, 0, 0, 0, 0, 0, 0, 0, 0, 0, 0, 0, 0, 0, 0, 0, 0, 0, 0, 0, 0, 0, 0, 0, 0, 0, 0, 0, 0, 0, 0, 0, 0, 0, 0, 0, 0, 0, 0, 0, 0, 0, 0, 0, 0, 0, 0, 0, 0, 0, 0, 0, 0, 0, 0, 0, 0, 0, 0, 0, 0, 0, 0, 0, 0, 0, 0, 0, 0, 0, 0, 0, 0, 0, 0, 0, 0, 0, 0, 0, 0, 0, 0, 0, 0, 0, 0, 0, 0, 0, 0, 0, 0, 0, 0, 0, 0, 0, 0, 0, 0, 0, 0, 0, 0, 0, 0, 0, 0, 0, 0, 0, 0, 0, 0, 0, 0, 0, 0, 0, 0, 0, 0, 0, 0, 0, 0, -1, -1, -1, -1], [], [], [], []]

end

/-! 84.made.lean.txt -/
section
/-! ===== what the constructors leave is flat memory ===== -/
def nw_zq : List Int32 → List Int32 → Bool
  | [], l => l.all (fun x => decide (x = 0))
  | a :: l, [] => decide (a = 0) && nw_zq l []
  | a :: l, b :: m => decide (a = b) && nw_zq l m
theorem nw_z0 {l : List Int32} (h : l.all (fun x => decide (x = 0)) = true) (i : Nat) : l.getD i 0 = 0 := by
  rw [List.getD_eq_getElem?_getD]
  cases e : l[i]? with
  | none => rfl
  | some x => exact of_decide_eq_true (List.all_eq_true.mp h x (List.mem_of_getElem? e))
theorem nw_zq_ok : ∀ (l m : List Int32), nw_zq l m = true → ∀ i, l.getD i 0 = m.getD i 0 := by
  intro l
  induction l with
  | nil =>
    intro m h i
    have h : m.all (fun x => decide (x = 0)) = true := by cases m <;> exact h
    rw [nw_z0 h]
    rfl
  | cons a l ih =>
    intro m h i
    cases m with
    | nil =>
      have h : (decide (a = 0) && nw_zq l []) = true := h
      rw [Bool.and_eq_true] at h
      cases i with
      | zero => exact of_decide_eq_true h.1
      | succ i =>
        have := ih [] h.2 i
        rw [List.getD_cons_succ, this]
        rfl
    | cons b m =>
      have h : (decide (a = b) && nw_zq l m) = true := h
      rw [Bool.and_eq_true] at h
      cases i with
      | zero => exact of_decide_eq_true h.1
      | succ i =>
        rw [List.getD_cons_succ, List.getD_cons_succ]
        exact ih m h.2 i
/-- an object that was made is the kind's, at its place, with its words -/
def nw_cko (k : fl_K) (p : Nat) (wl : List Int32) (o : nw_O) : Bool := match o, k with
  | .inl (n, l), .inr (0, n', _) => Nat.beq n n' && nw_zq l wl
  | .inr (.inl n), .inr (1, n', _) => Nat.beq n n'
  | .inr (.inr (.inl (t + 2, n, l))), .inr (t' + 2, n', _, b, d) => Nat.beq t t' && (Nat.beq n n' && (Nat.ble l.length n && (List.range n).all (fun i => decide (l.getD i none = if d = 0 then (if wl.getD i 0 = 0 then none else some (wl.getD i 0).toNatClampNeg) else some (p + b + d * i)))))
  | .inr (.inr (.inr (ci, fs))), .inl (cj, ks) => Nat.beq ci cj && decide (fs = ks.mapIdx (fl_fv p (fun i => wl.getD i 0)))
  | _, _ => false
theorem nw_cko_ok {k : fl_K} {p : Nat} {wl : List Int32} {o : nw_O} (h : nw_cko k p wl o = true) : nw_o o = fl_ob k p (fun i => wl.getD i 0) (fun _ => 0) := by
  unfold nw_cko at h
  split at h
  · rename_i n l n' z
    simp only [Bool.and_eq_true] at h
    obtain ⟨h1, h2⟩ := h
    rw [Nat.eq_of_beq_eq_true h1]
    show (.inl (0, n', .inl (fun i => l.getD i 0)) : am_O) = .inl (0, n', .inl (fun i => wl.getD i 0))
    have : (fun i => l.getD i 0) = fun i => wl.getD i 0 := funext (nw_zq_ok l wl h2)
    rw [this]
  · rename_i n n' z
    rw [Nat.eq_of_beq_eq_true h]
    rfl
  · rename_i t n l t' n' τ b d
    simp only [Bool.and_eq_true] at h
    obtain ⟨h1, h2, h3, h4⟩ := h
    rw [Nat.eq_of_beq_eq_true h1, Nat.eq_of_beq_eq_true h2] at *
    rw [fl_ob_2]
    show (.inl (t' + 2, n', .inr (.inr (.inr (.inr (fun i => l.getD i none))))) : am_O) = _
    have : (fun i => l.getD i none) = (fun i => if i < n' then (if d = 0 then (if wl.getD i 0 = 0 then none else some (wl.getD i 0).toNatClampNeg) else some (p + b + d * i)) else none) := by
      funext i
      by_cases hi : i < n'
      · rw [if_pos hi]
        exact of_decide_eq_true (List.all_eq_true.mp h4 i (List.mem_range.mpr hi))
      · rw [if_neg hi]
        have := Nat.le_of_ble_eq_true h3
        rw [List.getD_eq_getElem?_getD, List.getElem?_eq_none (by omega)]
        rfl
    rw [this]
  · rename_i ci fs cj ks
    simp only [Bool.and_eq_true] at h
    obtain ⟨h1, h2⟩ := h
    rw [Nat.eq_of_beq_eq_true h1, of_decide_eq_true h2]
    rfl
  · cases h
def nw_ckl (N : Nat) (wl : Nat → List Int32) : Nat → List nw_O → Bool
  | _, [] => true
  | r, o :: l => nw_cko (fk_kd (fk_K (N + r))) (N + r) (wl r) o && nw_ckl N wl (r + 1) l
theorem nw_ckl_ok {N : Nat} {wl : Nat → List Int32} : ∀ (l : List nw_O) (r : Nat), nw_ckl N wl r l = true → ∀ i : Nat, i < l.length → (l.map nw_o)[i]? = some (fl_ob (fk_kd (fk_K (N + (r + i)))) (N + (r + i)) (fun j => (wl (r + i)).getD j 0) (fun _ => 0)) := by
  intro l
  induction l with
  | nil => intro r _ i hi; simp at hi
  | cons o l ih =>
    intro r h i hi
    have h : (nw_cko (fk_kd (fk_K (N + r))) (N + r) (wl r) o && nw_ckl N wl (r + 1) l) = true := h
    rw [Bool.and_eq_true] at h
    cases i with
    | zero =>
      rw [List.map_cons, List.getElem?_cons_zero, nw_cko_ok h.1]
      rfl
    | succ i =>
      rw [List.map_cons, List.getElem?_cons_succ, ih (r + 1) h.2 i (by simpa using hi)]
      have : r + 1 + i = r + (i + 1) := by omega
      rw [this]
/-- the words of a fresh state; of all, at the start -/
def at_W0 (r i : Nat) : Int32 := (at_w0l.getD r []).getD i 0
def at_i0 (p : Nat) : List Int32 := if p = 0 then [] else if p < 271 then at_w0l.getD ((p - 1) % 90) [] else at_i0l.getD (p - 271) []
def nw_obj0 : nw_O := .inr (.inr (.inr ((pw_new (pw_own 24) 9).getD (0, []))))
def nw_ckst (N : Nat) (r : Option (Option Value × nw_H)) : Bool := match r with
  | some (none, H) => Nat.beq H.1.length 90 && (Nat.beq H.2 1564 && nw_ckl N (fun r => at_w0l.getD r []) 0 H.1)
  | _ => false
/-- the law up to the reference; its making; its constructor up to the copy -/
def nw_r1 : Option (am_L × List Value × nw_H) := nw_to 0 0 8 5000 0 (lv_args 0 [.retAddr 0]) [] ([], 0)
def nw_r2 : Option (am_L × List Value × nw_H) := nw_to 277 0 12 5000 8 [(1, .ref 0), (0, .retAddr 0)] [] ([], 0)
def nw_obj1 : nw_O := .inr (.inr (.inr ((pw_new (pw_own 0) 10).getD (0, []))))
def nw_r3 : Option (am_L × List Value × nw_H) := nw_to 277 183 765 5000 0 (lv_args 0 [.ref 277]) [] ([nw_obj1], 10)
def nw_ckr (N : Nat) (wl : Nat → List Int32) (lv : am_L) (st : List Value) (n s : Nat) (r : Option (am_L × List Value × nw_H)) : Bool := match r with
  | some (lv', st', H) => decide (lv' = lv) && (decide (st' = st) && (Nat.beq H.1.length n && (Nat.beq H.2 s && nw_ckl N wl 0 H.1)))
  | none => false
set_option maxRecDepth 1000000 in
theorem nw_r1_ck : nw_ckr 0 at_i0 [(1, .ref 0), (0, .retAddr 0)] [] 277 5395 nw_r1 = true := by decide +kernel
theorem nw_r2_ck : nw_r2 = some ([(1, .ref 0), (0, .retAddr 0)], [.ref 277, .ref 277], ([nw_obj1], 10)) := rfl
set_option maxRecDepth 1000000 in
theorem nw_r3_ck : (match nw_r3 with
  | some (_, st', H) => decide (st' = [.ref 281, .ref 280]) && (Nat.beq H.1.length 8 && (Nat.beq H.2 77355 && nw_ckl 277 (fun r => at_i0 (277 + r)) 0 H.1))
  | none => false) = true := by decide +kernel
def nw_one (h : Nat) : Bool := nw_ckst (285 + 90 * h) (nw_ev (285 + 90 * h) 2000 32 0 [(0, .ref (285 + 90 * h))] [] ([nw_obj0], 17))

end

/-! 84.s0.lean.txt -/
section
/-! ===== a state that is made, 0 .. 19 ===== -/
set_option maxRecDepth 1000000 in
theorem nw_s0 : nw_one 0 = true := by decide +kernel
set_option maxRecDepth 1000000 in
theorem nw_s1 : nw_one 1 = true := by decide +kernel
set_option maxRecDepth 1000000 in
theorem nw_s2 : nw_one 2 = true := by decide +kernel
set_option maxRecDepth 1000000 in
theorem nw_s3 : nw_one 3 = true := by decide +kernel
set_option maxRecDepth 1000000 in
theorem nw_s4 : nw_one 4 = true := by decide +kernel
set_option maxRecDepth 1000000 in
theorem nw_s5 : nw_one 5 = true := by decide +kernel
set_option maxRecDepth 1000000 in
theorem nw_s6 : nw_one 6 = true := by decide +kernel
set_option maxRecDepth 1000000 in
theorem nw_s7 : nw_one 7 = true := by decide +kernel
set_option maxRecDepth 1000000 in
theorem nw_s8 : nw_one 8 = true := by decide +kernel
set_option maxRecDepth 1000000 in
theorem nw_s9 : nw_one 9 = true := by decide +kernel
set_option maxRecDepth 1000000 in
theorem nw_s10 : nw_one 10 = true := by decide +kernel
set_option maxRecDepth 1000000 in
theorem nw_s11 : nw_one 11 = true := by decide +kernel
set_option maxRecDepth 1000000 in
theorem nw_s12 : nw_one 12 = true := by decide +kernel
set_option maxRecDepth 1000000 in
theorem nw_s13 : nw_one 13 = true := by decide +kernel
set_option maxRecDepth 1000000 in
theorem nw_s14 : nw_one 14 = true := by decide +kernel
set_option maxRecDepth 1000000 in
theorem nw_s15 : nw_one 15 = true := by decide +kernel
set_option maxRecDepth 1000000 in
theorem nw_s16 : nw_one 16 = true := by decide +kernel
set_option maxRecDepth 1000000 in
theorem nw_s17 : nw_one 17 = true := by decide +kernel
set_option maxRecDepth 1000000 in
theorem nw_s18 : nw_one 18 = true := by decide +kernel
set_option maxRecDepth 1000000 in
theorem nw_s19 : nw_one 19 = true := by decide +kernel

end

/-! 84.s1.lean.txt -/
section
/-! ===== a state that is made, 20 .. 39 ===== -/
set_option maxRecDepth 1000000 in
theorem nw_s20 : nw_one 20 = true := by decide +kernel
set_option maxRecDepth 1000000 in
theorem nw_s21 : nw_one 21 = true := by decide +kernel
set_option maxRecDepth 1000000 in
theorem nw_s22 : nw_one 22 = true := by decide +kernel
set_option maxRecDepth 1000000 in
theorem nw_s23 : nw_one 23 = true := by decide +kernel
set_option maxRecDepth 1000000 in
theorem nw_s24 : nw_one 24 = true := by decide +kernel
set_option maxRecDepth 1000000 in
theorem nw_s25 : nw_one 25 = true := by decide +kernel
set_option maxRecDepth 1000000 in
theorem nw_s26 : nw_one 26 = true := by decide +kernel
set_option maxRecDepth 1000000 in
theorem nw_s27 : nw_one 27 = true := by decide +kernel
set_option maxRecDepth 1000000 in
theorem nw_s28 : nw_one 28 = true := by decide +kernel
set_option maxRecDepth 1000000 in
theorem nw_s29 : nw_one 29 = true := by decide +kernel
set_option maxRecDepth 1000000 in
theorem nw_s30 : nw_one 30 = true := by decide +kernel
set_option maxRecDepth 1000000 in
theorem nw_s31 : nw_one 31 = true := by decide +kernel
set_option maxRecDepth 1000000 in
theorem nw_s32 : nw_one 32 = true := by decide +kernel
set_option maxRecDepth 1000000 in
theorem nw_s33 : nw_one 33 = true := by decide +kernel
set_option maxRecDepth 1000000 in
theorem nw_s34 : nw_one 34 = true := by decide +kernel
set_option maxRecDepth 1000000 in
theorem nw_s35 : nw_one 35 = true := by decide +kernel
set_option maxRecDepth 1000000 in
theorem nw_s36 : nw_one 36 = true := by decide +kernel
set_option maxRecDepth 1000000 in
theorem nw_s37 : nw_one 37 = true := by decide +kernel
set_option maxRecDepth 1000000 in
theorem nw_s38 : nw_one 38 = true := by decide +kernel
set_option maxRecDepth 1000000 in
theorem nw_s39 : nw_one 39 = true := by decide +kernel
theorem nw_state : ∀ h : Nat, h < 40 → nw_one h = true
  | 0, _ => nw_s0
  | 1, _ => nw_s1
  | 2, _ => nw_s2
  | 3, _ => nw_s3
  | 4, _ => nw_s4
  | 5, _ => nw_s5
  | 6, _ => nw_s6
  | 7, _ => nw_s7
  | 8, _ => nw_s8
  | 9, _ => nw_s9
  | 10, _ => nw_s10
  | 11, _ => nw_s11
  | 12, _ => nw_s12
  | 13, _ => nw_s13
  | 14, _ => nw_s14
  | 15, _ => nw_s15
  | 16, _ => nw_s16
  | 17, _ => nw_s17
  | 18, _ => nw_s18
  | 19, _ => nw_s19
  | 20, _ => nw_s20
  | 21, _ => nw_s21
  | 22, _ => nw_s22
  | 23, _ => nw_s23
  | 24, _ => nw_s24
  | 25, _ => nw_s25
  | 26, _ => nw_s26
  | 27, _ => nw_s27
  | 28, _ => nw_s28
  | 29, _ => nw_s29
  | 30, _ => nw_s30
  | 31, _ => nw_s31
  | 32, _ => nw_s32
  | 33, _ => nw_s33
  | 34, _ => nw_s34
  | 35, _ => nw_s35
  | 36, _ => nw_s36
  | 37, _ => nw_s37
  | 38, _ => nw_s38
  | 39, _ => nw_s39
  | n + 40, h => absurd h (by omega)

end

/-! 85.inv.lean.txt -/
section
/-! ===== what the looker leaves alone: histories, states that aren't made yet, blocks of the reference's words ===== -/
def at_top (r : at_R) : Bool := decide (0 ≤ r.2.2.1) && decide (r.2.1 + r.2.2.1 * (r.2.2.2.1 - 1) + (r.2.2.2.2.1 - 1) ≤ 1419)
theorem at_top_all : (at_rg at_TA).all at_top = true := by decide +kernel
theorem at_mem_top {r : at_R} (hr : r ∈ at_rg at_TA) {j : Int} (h : at_mem j r) : j ≤ 1419 := by
  have ht := List.all_eq_true.mp at_top_all r hr
  unfold at_top at ht
  simp only [Bool.and_eq_true, decide_eq_true_eq] at ht
  obtain ⟨o, i, h1, h2, h3, h4, h5⟩ := h
  have : r.2.2.1 * o ≤ r.2.2.1 * (r.2.2.2.1 - 1) := Int.mul_le_mul_of_nonneg_left h2 ht.1
  omega
/-- the words 2 .. 1419 that a step keeps are in their ranges -/
def at_AK (w : Nat → Int) : Prop :=
  (∀ r ∈ at_rg at_TA, ∀ j : Nat, 2 ≤ j → at_mem j r → r.2.2.2.2.2.1 ≤ w j ∧ w j ≤ r.2.2.2.2.2.2) ∧
  (∀ c : Nat, c < 16 → (c : Int) < w 2 → 100 ≤ w (444 + 61 * c) ∧ 100 ≤ w (450 + 61 * c) ∧ 1 ≤ w (454 + 61 * c) ∧ 0 ≤ w (445 + 61 * c) ∧ w (445 + 61 * c) ≤ 3600 * w (444 + 61 * c)) ∧
  ∀ k : Nat, k < 3 → w (341 + 35 * k) ≤ w 2
theorem at_AK.congr {w w' : Nat → Int} (h : at_AK w) (e : ∀ j : Nat, 2 ≤ j → j ≤ 1419 → w' j = w j) : at_AK w' := by
  obtain ⟨h1, h2, h3⟩ := h
  refine ⟨fun r hr j hj hm => ?_, fun c hc hl => ?_, fun k hk => ?_⟩
  · have := at_mem_top hr hm
    rw [e j hj (by omega)]
    exact h1 r hr j hj hm
  · rw [e 2 (by omega) (by omega)] at hl
    obtain ⟨a1, a2, a3, a4, a5⟩ := h2 c hc hl
    rw [e (444 + 61 * c) (by omega) (by omega), e (450 + 61 * c) (by omega) (by omega), e (454 + 61 * c) (by omega) (by omega), e (445 + 61 * c) (by omega) (by omega)]
    exact ⟨a1, a2, a3, a4, a5⟩
  · rw [e (341 + 35 * k) (by omega) (by omega), e 2 (by omega) (by omega)]
    exact h3 k hk
def at_nzr (m : fl_M) (q i : Nat) : Nat := if m.1 q i = 0 then 0 else 1
/-- how many rows of a history are made -/
def at_cnt (m : fl_M) (q : Nat) : Nat := ((List.range 20).map (at_nzr m q)).sum
theorem at_cnt_le (m : fl_M) (q : Nat) : at_cnt m q ≤ 20 := by
  have : ∀ l : List Nat, (l.map (at_nzr m q)).sum ≤ l.length := by
    intro l
    induction l with
    | nil => exact Nat.le_refl 0
    | cons a l ih =>
      rw [List.map_cons, List.sum_cons, List.length_cons]
      have : at_nzr m q a ≤ 1 := by unfold at_nzr; split <;> omega
      omega
  have h := this (List.range 20)
  rw [List.length_range] at h
  exact h
def at_XI (m : fl_M) : Prop :=
  (∀ q, q = 272 ∨ q = 274 → ∀ i, i < 20 → m.1 q i = 0 ∨ ∃ j, j < m.2.2 ∧ (m.1 q i).toInt = 285 + 90 * (j : Int)) ∧
  at_cnt m 272 + at_cnt m 274 = m.2.2 ∧
  (∀ p, fl_N m.2.2 ≤ p → ∀ i, m.1 p i = at_W0 ((p - 285) % 90) i) ∧
  at_AK (fun j => (m.1 283 (j - 2)).toInt) ∧
  (∀ s : Nat, s < 20 → at_AK (fun j => (m.1 280 (1420 + 1418 * s + (j - 2))).toInt)) ∧
  (at_AK (fun j => (m.1 281 j).toInt) ∧ (0 ≤ (m.1 281 0).toInt ∧ (m.1 281 0).toInt ≤ 20) ∧ (0 ≤ (m.1 281 1).toInt ∧ (m.1 281 1).toInt ≤ 19)) ∧
  (∀ s : Nat, s < 20 → at_AK (fun j => (m.1 281 (1420 + 1418 * s + (j - 2))).toInt)) ∧
  ∀ p j : Nat, p = 278 ∨ p = 279 → m.1 p j = (at_i0 p).getD j 0
theorem at_XI.h40 {m : fl_M} (h : at_XI m) : m.2.2 ≤ 40 := by
  have := at_cnt_le m 272
  have := at_cnt_le m 274
  have := h.2.1
  omega
/-- all that X speaks of stands -/
theorem at_XI.keep {m m' : fl_M} (h : at_XI m) (hh : m'.2.2 = m.2.2) (hk : ∀ p j : Nat, (p = 272 ∨ p = 274 ∨ fl_N m.2.2 ≤ p ∨ p = 283 ∨ (p = 280 ∧ 1420 ≤ j) ∨ p = 281 ∨ p = 278 ∨ p = 279) → m'.1 p j = m.1 p j) : at_XI m' := by
  obtain ⟨h1, h2, h3, h4, h5, ⟨h6, h7, h8⟩, h9, h10⟩ := h
  have c1 : at_cnt m' 272 = at_cnt m 272 := by
    unfold at_cnt at_nzr
    simp only [fun i => hk 272 i (Or.inl rfl)]
  have c2 : at_cnt m' 274 = at_cnt m 274 := by
    unfold at_cnt at_nzr
    simp only [fun i => hk 274 i (Or.inr (Or.inl rfl))]
  refine ⟨fun q hq i hi => ?_, by rw [c1, c2, hh]; exact h2, fun p hp i => ?_, ?_, fun s hs => ?_, ⟨?_, ?_, ?_⟩, fun s hs => ?_, fun p j hp => ?_⟩
  · have e : m'.1 q i = m.1 q i := hk q i (by rcases hq with rfl | rfl <;> simp)
    rw [e, hh]
    exact h1 q hq i hi
  · rw [hh] at hp
    rw [hk p i (by simp [hp])]
    exact h3 p hp i
  · exact h4.congr (fun j _ _ => by (try dsimp only); rw [hk 283 (j - 2) (by simp)])
  · exact (h5 s hs).congr (fun j _ _ => by (try dsimp only); rw [hk 280 _ (Or.inr (Or.inr (Or.inr (Or.inr (Or.inl ⟨rfl, by omega⟩)))))])
  · exact h6.congr (fun j _ _ => by (try dsimp only); rw [hk 281 j (by simp)])
  · rw [hk 281 0 (by simp)]; exact h7
  · rw [hk 281 1 (by simp)]; exact h8
  · exact (h9 s hs).congr (fun j _ _ => by (try dsimp only); rw [hk 281 _ (by simp)])
  · rw [hk p j (by rcases hp with rfl | rfl <;> simp)]
    exact h10 p j hp
theorem fk_K_280 : fk_K 280 = 79 := by decide +kernel
theorem at_XI_XX : at_XX at_XI := by
  have kp : ∀ p : Nat, p = 272 ∨ p = 274 → fk_K p = 74 := by rintro p (rfl | rfl) <;> decide +kernel
  have k1 : fk_K 283 = 82 := by decide +kernel
  have k2 : fk_K 281 = 80 := by decide +kernel
  have k3 : fk_K 278 = 77 := by decide +kernel
  have k4 : fk_K 279 = 78 := by decide +kernel
  refine ⟨fun m p i x h hp hn => ?_, fun m l h => ?_, fun m p w h hp hn => ?_⟩
  · refine h.keep rfl (fun q j hq => ?_)
    show fl_up m.1 p i x q j = m.1 q j
    unfold fl_up
    rw [if_neg]
    rintro ⟨rfl, rfl⟩
    refine hn ?_
    rcases hq with rfl | rfl | hq | rfl | ⟨rfl, hq⟩ | rfl | rfl | rfl
    · exact Or.inr (Or.inr (Or.inr (Or.inl (kp _ (Or.inl rfl)))))
    · exact Or.inr (Or.inr (Or.inr (Or.inl (kp _ (Or.inr rfl)))))
    · exact absurd hp (by omega)
    · exact Or.inr (Or.inr (Or.inl k1))
    · exact Or.inl ⟨fk_K_280, by omega⟩
    · exact Or.inr (Or.inl k2)
    · exact Or.inr (Or.inr (Or.inr (Or.inr (Or.inl k3))))
    · exact Or.inr (Or.inr (Or.inr (Or.inr (Or.inr k4))))
  · exact h.keep rfl (fun q j hq => rfl)
  · refine h.keep rfl (fun q j hq => ?_)
    show fl_row m.1 p w q j = m.1 q j
    unfold fl_row
    rw [if_neg]
    rintro rfl
    refine hn j ?_
    rcases hq with rfl | rfl | hq | rfl | ⟨rfl, hq⟩ | rfl | rfl | rfl
    · exact Or.inr (Or.inr (Or.inr (Or.inl (kp _ (Or.inl rfl)))))
    · exact Or.inr (Or.inr (Or.inr (Or.inl (kp _ (Or.inr rfl)))))
    · exact absurd hp (by omega)
    · exact Or.inr (Or.inr (Or.inl k1))
    · exact Or.inl ⟨fk_K_280, by omega⟩
    · exact Or.inr (Or.inl k2)
    · exact Or.inr (Or.inr (Or.inr (Or.inr (Or.inl k3))))
    · exact Or.inr (Or.inr (Or.inr (Or.inr (Or.inr k4))))
/-- the reference's words, whole -/
theorem at_Good.AK {X : fl_M → Prop} {m : fl_M} (h : at_Good X m) : at_AK (at_w m) := by
  obtain ⟨h1, ⟨h2, h3⟩, -⟩ := h
  have hnb : ∀ w c, at_nb (fun _ => 0) [] w c := fun w c b hb => by cases hb
  refine ⟨fun r hr j _ hm => ?_, fun c hc hl => ?_, h3⟩
  · refine h1 280 (by unfold fl_N; omega) r ?_ j hm
    rw [fk_K_280]
    exact hr
  · obtain ⟨x1, x2, x3, x4⟩ := h2 c hc hl
    obtain ⟨x5, x6⟩ := x4 (hnb _ _)
    exact ⟨x1 (hnb _ _), x2 (hnb _ _), x3 (hnb _ _), x5, x6⟩
theorem at_Good.w0 {X : fl_M → Prop} {m : fl_M} (h : at_Good X m) : 0 ≤ at_w m 0 ∧ at_w m 0 ≤ 20 := by
  refine h.1 280 (by unfold fl_N; omega) (0, 0, 0, 1, 1, 0, 20) ?_ 0 ⟨0, 0, by decide, by decide, by decide, by decide, by decide⟩
  rw [fk_K_280]
  decide +kernel
theorem at_Good.w1 {X : fl_M → Prop} {m : fl_M} (h : at_Good X m) : 0 ≤ at_w m 1 ∧ at_w m 1 ≤ 19 := by
  refine h.1 280 (by unfold fl_N; omega) (0, 1, 0, 1, 1, 0, 19) ?_ 1 ⟨0, 0, by decide, by decide, by decide, by decide, by decide⟩
  rw [fk_K_280]
  decide +kernel
theorem at_Good.w2 {X : fl_M → Prop} {m : fl_M} (h : at_Good X m) : 0 ≤ at_w m 2 ∧ at_w m 2 ≤ 16 := by
  refine h.1 280 (by unfold fl_N; omega) (0, 2, 0, 1, 1, 0, 16) ?_ 2 ⟨0, 0, by decide, by decide, by decide, by decide, by decide⟩
  rw [fk_K_280]
  decide +kernel
/-- the reference's words 0, 1 and those of a block: all good -/
def at_01 (r : at_R) : Bool := bif decide (r.2.1 ≤ 1) then decide (r = (0, 0, 0, 1, 1, 0, 20)) || decide (r = (0, 1, 0, 1, 1, 0, 19)) else decide (0 ≤ r.2.2.1)
theorem at_01_all : (at_rg at_TA).all at_01 = true := by decide +kernel
theorem at_Good.mk {X : fl_M → Prop} {m m' : fl_M} (h : at_Good X m) (hh : m'.2.2 = m.2.2) (hX : X m') (hr : ∀ p j : Nat, p ≠ 280 → p < fl_N m.2.2 → m'.1 p j ≠ m.1 p j → at_rg (fk_K p) = []) (h0 : 0 ≤ at_w m' 0 ∧ at_w m' 0 ≤ 20) (h1 : 0 ≤ at_w m' 1 ∧ at_w m' 1 ≤ 19) (hA : at_AK (at_w m')) : at_Good X m' := by
  obtain ⟨a1, a2, a3⟩ := hA
  refine ⟨fun p hp r hr' j hm => ?_, ⟨fun c hc hl => ?_, a3⟩, hX⟩
  · rw [hh] at hp
    by_cases hp2 : p = 280
    · subst hp2
      rw [fk_K_280] at hr'
      by_cases hj : 2 ≤ j
      · exact a1 r hr' j hj hm
      · have hb := List.all_eq_true.mp at_01_all r hr'
        unfold at_01 at hb
        obtain ⟨o, i, q1, q2, q3, q4, q5⟩ := hm
        cases hd : decide (r.2.1 ≤ 1) with
        | true =>
          rw [hd] at hb
          simp only [cond_true, Bool.or_eq_true, decide_eq_true_eq] at hb
          rcases hb with rfl | rfl
          · have : j = 0 := by simp only at q5 q4; omega
            subst this
            exact h0
          · have : j = 1 := by simp only at q5 q4; omega
            subst this
            exact h1
        | false =>
          rw [hd] at hb
          simp only [cond_false, decide_eq_true_eq] at hb
          have hd := of_decide_eq_false hd
          have := Int.mul_nonneg hb q1
          omega
    · by_cases e : m'.1 p j = m.1 p j
      · rw [e]
        exact h.1 p hp r hr' j hm
      · rw [hr p j hp2 hp e] at hr'
        cases hr'
  · obtain ⟨x1, x2, x3, x4, x5⟩ := a2 c hc hl
    exact ⟨fun _ => x1, fun _ => x2, fun _ => x3, fun _ => ⟨x4, x5⟩⟩

end

/-! 86.tools.lean.txt -/
section
/-! ===== tools for methods that are gone through by hand ===== -/
def fl_oks (h : Nat) : List fl_V → Prop
  | [] => True
  | v :: r => fl_ok h v ∧ fl_oks h r
theorem fl_oks_ok {h : Nat} : ∀ {st : List fl_V}, fl_oks h st → ∀ v ∈ st, fl_ok h v := by
  intro st
  induction st with
  | nil => intro _ v hv; cases hv
  | cons w r ih =>
    intro hs v hv
    rcases List.mem_cons.mp hv with rfl | hv
    · exact hs.1
    · exact ih hs.2 v hv
theorem fl_okp {h τ p : Nat} (hk : fk_K p = τ) (hp : p < 285) : fl_ok h (.inr (.inr (.inl (τ, p)))) := ⟨hk, by unfold fl_N; omega⟩
def fl_vb (v : fl_V) : Bool := match v with
  | .inr (.inr (.inl q)) => Nat.beq (fk_K q.2) q.1 && Nat.blt q.2 285
  | _ => true
theorem fl_bo {h : Nat} : ∀ {st : List fl_V}, st.all fl_vb = true → ∀ v ∈ st, fl_ok h v := by
  intro st hs v hv
  have := List.all_eq_true.mp hs v hv
  unfold fl_ok
  split
  · rename_i q
    have this : (Nat.beq (fk_K q.2) q.1 && Nat.blt q.2 285) = true := this
    rw [Bool.and_eq_true] at this
    have h2 : q.2 < 285 := Nat.le_of_ble_eq_true this.2
    exact ⟨Nat.eq_of_beq_eq_true this.1, by unfold fl_N; omega⟩
  · exact True.intro
section FTL
variable {P : am_Pg} {pc t p k : Nat} {off : Int} {lv : fl_L} {r : List fl_V} {m : fl_M} {τ n : Nat} {z : Nat × Nat × Nat} {i x : Int32} {b : Bool}
theorem at_ofN (h : k < 2147483648) : (Int32.ofNat k).toInt = k := Int32.toInt_ofNat_small h
theorem at_add32 {x y : Int32} (h1 : -2147483648 ≤ x.toInt + y.toInt) (h2 : x.toInt + y.toInt ≤ 2147483647) : (x + y).toInt = x.toInt + y.toInt := by
  rw [Int32.toInt_add]; exact Int.bmod_eq_of_le (by omega) (by omega)
theorem at_sub32 {x y : Int32} (h1 : -2147483648 ≤ x.toInt - y.toInt) (h2 : x.toInt - y.toInt ≤ 2147483647) : (x - y).toInt = x.toInt - y.toInt := by
  rw [Int32.toInt_sub]; exact Int.bmod_eq_of_le (by omega) (by omega)
theorem at_mul32 {x y : Int32} (h1 : -2147483648 ≤ x.toInt * y.toInt) (h2 : x.toInt * y.toInt ≤ 2147483647) : (x * y).toInt = x.toInt * y.toInt := by
  rw [Int32.toInt_mul]; exact Int.bmod_eq_of_le (by omega) (by omega)
theorem fl_ald_eq (hk : fk_kd τ = .inr (0, n, z)) (hi : i.toInt = k) (hlt : k < n) : fl_ald P pc lv (.inl i :: .inr (.inr (.inl (τ, p))) :: r) m = some (pc + 1, lv, .inl (m.1 p k) :: r, m) := by
  obtain ⟨h1, h2⟩ := at_in_ok (i := i) (n := n) (by omega) (by omega)
  have h3 : i.toNatClampNeg = k := by omega
  show ((match fk_kd τ with
    | .inr (0, n, _) => bif am_in i n then some (pc + 1, lv, .inl (m.1 p i.toNatClampNeg) :: r, m) else none
    | _ => none) : Option fl_C) = _
  rw [hk]
  show ((bif am_in i n then some (pc + 1, lv, .inl (m.1 p i.toNatClampNeg) :: r, m) else none) : Option fl_C) = _
  rw [h1, h3]
  rfl
theorem fl_ast_eq (hk : fk_kd τ = .inr (0, n, z)) (hi : i.toInt = k) (hlt : k < n) : fl_ast pc lv (.inl x :: .inl i :: .inr (.inr (.inl (τ, p))) :: r) m = some (pc + 1, lv, r, (fl_up m.1 p k x, m.2)) := by
  obtain ⟨h1, h2⟩ := at_in_ok (i := i) (n := n) (by omega) (by omega)
  have h3 : i.toNatClampNeg = k := by omega
  show ((match fk_kd τ with
    | .inr (0, n, _) => bif am_in i n then some (pc + 1, lv, r, (fl_up m.1 p i.toNatClampNeg x, m.2)) else none
    | _ => none) : Option fl_C) = _
  rw [hk]
  show ((bif am_in i n then some (pc + 1, lv, r, (fl_up m.1 p i.toNatClampNeg x, m.2)) else none) : Option fl_C) = _
  rw [h1, h3]
  rfl
theorem fl_br_t (hb : b = true) (ht : am_tg pc off = some t) : fl_br b pc off lv r m = some (t, lv, r, m) := by
  unfold fl_br
  rw [ht, hb]
  rfl
theorem fl_br_f (hb : b = false) (ht : am_tg pc off = some t) : fl_br b pc off lv r m = some (pc + 3, lv, r, m) := by
  unfold fl_br
  rw [ht, hb]
  rfl
variable {mi : Nat} {st : List fl_V} {Q : Option fl_V → fl_M → Prop} {y : Int32} {c : ClassFile.Cond}
theorem fl_Tq.jt (hc : am_code P mi pc = some (.if_icmp c off)) (hok : ∀ v ∈ (.inl y :: .inl x :: r : List fl_V), fl_ok m.2.2 v) (hb : am_c2 c x y = true) (ht : am_tg pc off = some t) (k : fl_Tq P mi t lv r m Q) : fl_Tq P mi pc lv (.inl y :: .inl x :: r) m Q := fl_Tq.stp hc rfl hok (fl_br_t hb ht) k
theorem fl_Tq.jf (hc : am_code P mi pc = some (.if_icmp c off)) (hok : ∀ v ∈ (.inl y :: .inl x :: r : List fl_V), fl_ok m.2.2 v) (hb : am_c2 c x y = false) (ht : am_tg pc off = some t) (k : fl_Tq P mi (pc + 3) lv r m Q) : fl_Tq P mi pc lv (.inl y :: .inl x :: r) m Q := fl_Tq.stp hc rfl hok (fl_br_f hb ht) k
theorem fl_Tq.zt (hc : am_code P mi pc = some (.ifCond c off)) (hok : ∀ v ∈ (.inl x :: r : List fl_V), fl_ok m.2.2 v) (hb : am_c1 c x = true) (ht : am_tg pc off = some t) (k : fl_Tq P mi t lv r m Q) : fl_Tq P mi pc lv (.inl x :: r) m Q := fl_Tq.stp hc rfl hok (fl_br_t hb ht) k
theorem fl_Tq.zf (hc : am_code P mi pc = some (.ifCond c off)) (hok : ∀ v ∈ (.inl x :: r : List fl_V), fl_ok m.2.2 v) (hb : am_c1 c x = false) (ht : am_tg pc off = some t) (k : fl_Tq P mi (pc + 3) lv r m Q) : fl_Tq P mi pc lv (.inl x :: r) m Q := fl_Tq.stp hc rfl hok (fl_br_f hb ht) k
theorem fl_Tq.ld (hc : am_code P mi pc = some .iaload) (hok : ∀ v ∈ (.inl i :: .inr (.inr (.inl (τ, p))) :: r : List fl_V), fl_ok m.2.2 v) (hk : fk_kd τ = .inr (0, n, z)) (hi : i.toInt = k) (hlt : k < n) (q : fl_Tq P mi (pc + 1) lv (.inl (m.1 p k) :: r) m Q) : fl_Tq P mi pc lv (.inl i :: .inr (.inr (.inl (τ, p))) :: r) m Q := fl_Tq.stp hc rfl hok (fl_ald_eq (P := P) hk hi hlt) q
theorem fl_Tq.sv (hc : am_code P mi pc = some .iastore) (hok : ∀ v ∈ (.inl x :: .inl i :: .inr (.inr (.inl (τ, p))) :: r : List fl_V), fl_ok m.2.2 v) (hk : fk_kd τ = .inr (0, n, z)) (hi : i.toInt = k) (hlt : k < n) (q : fl_Tq P mi (pc + 1) lv r (fl_up m.1 p k x, m.2) Q) : fl_Tq P mi pc lv (.inl x :: .inl i :: .inr (.inr (.inl (τ, p))) :: r) m Q := fl_Tq.stp hc rfl hok (fl_ast_eq hk hi hlt) q
theorem fl_Tq.rm (hc : am_code P mi pc = some .irem) (hok : ∀ v ∈ (.inl y :: .inl x :: r : List fl_V), fl_ok m.2.2 v) (hy : y ≠ 0) (q : fl_Tq P mi (pc + 1) lv (.inl (x - (x / y) * y) :: r) m Q) : fl_Tq P mi pc lv (.inl y :: .inl x :: r) m Q := fl_Tq.stp hc rfl hok (show (if y = 0 then none else some (pc + 1, lv, Sum.inl (x - (x / y) * y) :: r, m) : Option fl_C) = _ from if_neg hy) q
theorem fl_Tq.dv (hc : am_code P mi pc = some .idiv) (hok : ∀ v ∈ (.inl y :: .inl x :: r : List fl_V), fl_ok m.2.2 v) (hy : y ≠ 0) (q : fl_Tq P mi (pc + 1) lv (.inl (x / y) :: r) m Q) : fl_Tq P mi pc lv (.inl y :: .inl x :: r) m Q := fl_Tq.stp hc rfl hok (show (if y = 0 then none else some (pc + 1, lv, Sum.inl (x / y) :: r, m) : Option fl_C) = _ from if_neg hy) q
end FTL
/-! ===== blocks that are copied word by word ===== -/
def bl_cp (src s0 dst d0 n : Nat) (m : fl_M) : fl_M := (fun p j => if p = dst ∧ d0 ≤ j ∧ j < d0 + n then m.1 src (j - d0 + s0) else m.1 p j, m.2)
theorem bl_cp_0 {src s0 dst d0 : Nat} {m : fl_M} : bl_cp src s0 dst d0 0 m = m := by
  unfold bl_cp
  refine Prod.ext ?_ rfl
  funext p j
  dsimp only
  rw [if_neg (by omega)]
theorem bl_cp_s {src s0 dst d0 n : Nat} {m : fl_M} (hd : src = dst → s0 + n < d0 ∨ d0 ≤ s0) : (fl_up (bl_cp src s0 dst d0 n m).1 dst (d0 + n) ((bl_cp src s0 dst d0 n m).1 src (s0 + n)), (bl_cp src s0 dst d0 n m).2) = bl_cp src s0 dst d0 (n + 1) m := by
  have e : (bl_cp src s0 dst d0 n m).1 src (s0 + n) = m.1 src (s0 + n) := by
    show (if src = dst ∧ d0 ≤ s0 + n ∧ s0 + n < d0 + n then _ else _) = _
    rw [if_neg]
    rintro ⟨h, h1, h2⟩
    have := hd h
    omega
  rw [e]
  refine Prod.ext ?_ rfl
  funext p j
  show (if p = dst ∧ j = d0 + n then m.1 src (s0 + n) else if p = dst ∧ d0 ≤ j ∧ j < d0 + n then m.1 src (j - d0 + s0) else m.1 p j) = (if p = dst ∧ d0 ≤ j ∧ j < d0 + (n + 1) then m.1 src (j - d0 + s0) else m.1 p j)
  by_cases h1 : p = dst ∧ j = d0 + n
  · obtain ⟨rfl, rfl⟩ := h1
    rw [if_pos ⟨rfl, rfl⟩, if_pos ⟨rfl, by omega, by omega⟩]
    have : d0 + n - d0 + s0 = s0 + n := by omega
    rw [this]
  · rw [if_neg h1]
    by_cases h2 : p = dst ∧ d0 ≤ j ∧ j < d0 + n
    · rw [if_pos h2, if_pos ⟨h2.1, h2.2.1, by omega⟩]
    · rw [if_neg h2, if_neg]
      rintro ⟨h3, h4, h5⟩
      exact h2 ⟨h3, h4, by
        have : j ≠ d0 + n := fun h => h1 ⟨h3, h⟩
        omega⟩
section ATCP
variable {L : Nat} {xs : Nat → Int32} {m : fl_M} {Q : Option fl_V → fl_M → Prop}
/-- the words that the whole row's copy leaves -/
theorem at_copy {p q tp tq : Nat} (kp : fk_K p = tp) (kq : fk_K q = tq) (hp : p < 285) (hq : q < 285) (dp : fk_kd tp = .inr (0, 29780, 0, 0, 0)) (dq : fk_kd tq = .inr (0, 29780, 0, 0, 0)) (hne : p ≠ q) (k : Q none (bl_cp p 0 q 0 29780 m)) : fl_Tq (pw_P L xs) 184 0 (fl_args (am_mxl (pw_P L xs) 184) [.inr (.inr (.inl (tp, p))), .inr (.inr (.inl (tq, q)))]) [] m Q := by
  have loop : ∀ (d n : Nat), n + d = 29780 → fl_Tq (pw_P L xs) 184 2 [some (.inr (.inr (.inl (tp, p)))), some (.inr (.inr (.inl (tq, q)))), some (.inl (Int32.ofNat n))] [] (bl_cp p 0 q 0 n m) Q := by
    intro d
    induction d with
    | zero =>
      intro n hn
      have hn : n = 29780 := by omega
      subst hn
      refine fl_Tq.stp rfl rfl (fl_bo rfl) rfl ?_
      refine fl_Tq.stp rfl rfl (fl_bo rfl) rfl ?_
      refine fl_Tq.jt rfl (fl_bo rfl) (by decide +kernel) rfl ?_
      exact fl_Tq.ret rfl rfl rfl k
    | succ d ih =>
      intro n hn
      have en := at_ofN (k := n) (by omega)
      refine fl_Tq.stp rfl rfl (fl_bo rfl) rfl ?_
      refine fl_Tq.stp rfl rfl (fl_bo rfl) rfl ?_
      refine fl_Tq.jf rfl (fl_bo rfl) ?_ rfl ?_
      · rw [at_c2, en]
        exact decide_eq_false (by show ¬ (0 ≤ (n : Int) - (29780 : Int)); omega)
      refine fl_Tq.stp rfl rfl (fl_bo rfl) rfl ?_
      refine fl_Tq.stp rfl rfl (fl_oks_ok ⟨fl_okp kq hq, True.intro⟩) rfl ?_
      refine fl_Tq.stp rfl rfl (fl_oks_ok ⟨True.intro, fl_okp kq hq, True.intro⟩) rfl ?_
      refine fl_Tq.stp rfl rfl (fl_oks_ok ⟨fl_okp kp hp, True.intro, fl_okp kq hq, True.intro⟩) rfl ?_
      refine fl_Tq.ld rfl (fl_oks_ok ⟨True.intro, fl_okp kp hp, True.intro, fl_okp kq hq, True.intro⟩) dp en (by omega) ?_
      refine fl_Tq.sv rfl (fl_oks_ok ⟨True.intro, True.intro, fl_okp kq hq, True.intro⟩) dq en (by omega) ?_
      have e2 := bl_cp_s (src := p) (s0 := 0) (dst := q) (d0 := 0) (n := n) (m := m) (fun h => absurd h hne)
      rw [Nat.zero_add] at e2
      rw [e2]
      refine fl_Tq.stp rfl rfl (fl_bo rfl) rfl ?_
      refine fl_Tq.stp rfl rfl (fl_bo rfl) rfl ?_
      have e3 : Int32.ofNat n + Int32.ofInt 1 = Int32.ofNat (n + 1) := by
        refine Int32.toInt.inj ?_
        rw [at_add32] <;> rw [en] <;> first | (rw [at_ofN (by omega)]; rfl) | (show _ ≤ _; have : (Int32.ofInt 1).toInt = 1 := rfl; omega)
      have := ih (n + 1) (by omega)
      rw [← e3] at this
      exact this
  refine fl_Tq.stp rfl rfl (fl_bo rfl) rfl ?_
  refine fl_Tq.stp rfl rfl (fl_bo rfl) rfl ?_
  have := loop 29780 0 (by omega)
  rw [bl_cp_0] at this
  exact this
end ATCP

end

/-! 87.blocks.lean.txt -/
section
/-! ===== putAside, bringBack, image, back: by hand ===== -/
def at_this : fl_V := .inr (.inr (.inl (76, 277)))
theorem at_ag277 {h : Nat} {ks : List at_K} {vs : List fl_V} (hk : at_agk h (.inl (76, some 277) :: ks) vs) : ∃ r, vs = at_this :: r ∧ at_agk h ks r := by
  cases vs with
  | nil => cases hk
  | cons v r =>
    obtain ⟨⟨p, rfl, e1, e2, e3⟩, hr⟩ := hk
    have := e3 277 rfl
    subst this
    exact ⟨r, rfl, hr⟩
theorem at_agnil {h : Nat} {vs : List fl_V} (hk : at_agk h [] vs) : vs = [] := by
  cases vs with
  | nil => rfl
  | cons v r => cases hk
theorem at_inc {n : Nat} (h : n < 2147483647) : Int32.ofNat n + Int32.ofInt 1 = Int32.ofNat (n + 1) := by
  have en := at_ofN (k := n) (by omega)
  have e1 : (Int32.ofInt 1).toInt = 1 := rfl
  refine Int32.toInt.inj ?_
  rw [at_add32 (by omega) (by omega), en, e1, at_ofN (by omega)]
  rfl
theorem at_2n {n : Nat} (h : n < 2147483645) : (Int32.ofInt 2 + Int32.ofNat n).toInt = ((n + 2 : Nat) : Int) := by
  have en := at_ofN (k := n) (by omega)
  have e1 : (Int32.ofInt 2).toInt = 2 := rfl
  rw [at_add32 (by omega) (by omega), en, e1]
  omega
theorem at_XI.mk280 {m m' : fl_M} (h : at_XI m) (hh : m'.2.2 = m.2.2) (hk : ∀ p j : Nat, p ≠ 280 → m'.1 p j = m.1 p j) (hs : ∀ s : Nat, s < 20 → at_AK (fun j => (m'.1 280 (1420 + 1418 * s + (j - 2))).toInt)) : at_XI m' := by
  let m2 : fl_M := ((fun p j => if p = 280 then m.1 p j else m'.1 p j), m'.2)
  have h2 : at_XI m2 := h.keep hh (fun p j hp => by
    show (if p = 280 then m.1 p j else m'.1 p j) = m.1 p j
    by_cases e : p = 280
    · rw [if_pos e]
    · rw [if_neg e]; exact hk p j e)
  obtain ⟨a1, a2, a3, a4, a5, ⟨a6, a7, a8⟩, a9, a10⟩ := h2
  have ne : ∀ p j : Nat, p ≠ 280 → m2.1 p j = m'.1 p j := fun p j e => by
    show (if p = 280 then m.1 p j else m'.1 p j) = m'.1 p j
    rw [if_neg e]
  refine ⟨fun q hq i hi => ?_, ?_, fun p hp i => ?_, ?_, hs, ⟨?_, ?_, ?_⟩, fun s hs' => ?_, fun p j hp => ?_⟩
  · have := a1 q hq i hi
    rw [ne q i (by omega)] at this
    exact this
  · unfold at_cnt at_nzr at a2 ⊢
    simp only [fun i => ne 272 i (by omega), fun i => ne 274 i (by omega)] at a2
    exact a2
  · have e : p ≠ 280 := by unfold fl_N at hp; omega
    rw [← ne p i e]
    exact a3 p hp i
  · exact a4.congr (fun j _ _ => by (try dsimp only); rw [ne 283 _ (by omega)])
  · exact a6.congr (fun j _ _ => by (try dsimp only); rw [ne 281 _ (by omega)])
  · rw [← ne 281 0 (by omega)]; exact a7
  · rw [← ne 281 1 (by omega)]; exact a8
  · exact (a9 s hs').congr (fun j _ _ => by (try dsimp only); rw [ne 281 _ (by omega)])
  · rw [← ne p j (by omega)]
    exact a10 p j hp
theorem bl_cp_in {src s0 dst d0 n : Nat} {m : fl_M} {j : Nat} (h1 : d0 ≤ j) (h2 : j < d0 + n) : (bl_cp src s0 dst d0 n m).1 dst j = m.1 src (j - d0 + s0) := by
  show (if dst = dst ∧ d0 ≤ j ∧ j < d0 + n then _ else _) = _
  rw [if_pos ⟨rfl, h1, h2⟩]
theorem bl_cp_out {src s0 dst d0 n : Nat} {m : fl_M} {p j : Nat} (h : p = dst → j < d0 ∨ d0 + n ≤ j) : (bl_cp src s0 dst d0 n m).1 p j = m.1 p j := by
  show (if p = dst ∧ d0 ≤ j ∧ j < d0 + n then _ else _) = _
  rw [if_neg]
  rintro ⟨h1, h2, h3⟩
  have := h h1
  omega
section ATBL
variable {L : Nat} {xs : Nat → Int32}
theorem at_v238 : at_Valid at_XI (pw_P L xs) (238, [.inl (76, some 277)], [], none, false, [(82, false, 0, 1417)]) := by
  intro m vs hg hk _
  obtain ⟨r, rfl, hk2⟩ := at_ag277 hk
  have hr0 := at_agnil (vs := r) hk2
  subst hr0
  have k82 : fk_K 283 = 82 := by decide +kernel
  have hR : ∀ Q : Option fl_V → fl_M → Prop, Q none (bl_cp 280 2 283 0 1418 m) → fl_Tq (pw_P L xs) 238 0 (fl_args (am_mxl (pw_P L xs) 238) [at_this]) [] m Q := by
    intro Q k
    have loop : ∀ (d n : Nat), n + d = 1418 → fl_Tq (pw_P L xs) 238 2 [some (.inr (.inr (.inl (76, 277)))), some (.inl (Int32.ofNat n))] [] (bl_cp 280 2 283 0 n m) Q := by
      intro d
      induction d with
      | zero =>
        intro n hn
        have hn : n = 1418 := by omega
        subst hn
        refine fl_Tq.stp rfl rfl (fl_bo rfl) rfl ?_
        refine fl_Tq.stp rfl rfl (fl_bo rfl) rfl ?_
        refine fl_Tq.jt rfl (fl_bo rfl) (by decide +kernel) rfl ?_
        exact fl_Tq.ret rfl rfl rfl k
      | succ d ih =>
        intro n hn
        have en := at_ofN (k := n) (by omega)
        refine fl_Tq.stp rfl rfl (fl_bo rfl) rfl ?_
        refine fl_Tq.stp rfl rfl (fl_bo rfl) rfl ?_
        refine fl_Tq.jf rfl (fl_bo rfl) ?_ rfl ?_
        · rw [at_c2, en]
          exact decide_eq_false (by show ¬ (0 ≤ (n : Int) - (1418 : Int)); omega)
        refine fl_Tq.stp rfl rfl (fl_bo rfl) rfl ?_
        refine fl_Tq.stp rfl rfl (fl_bo rfl) rfl ?_
        refine fl_Tq.stp rfl rfl (fl_bo rfl) rfl ?_
        refine fl_Tq.stp rfl rfl (fl_bo rfl) rfl ?_
        refine fl_Tq.stp rfl rfl (fl_bo rfl) rfl ?_
        refine fl_Tq.stp rfl rfl (fl_bo rfl) rfl ?_
        refine fl_Tq.stp rfl rfl (fl_bo rfl) rfl ?_
        refine fl_Tq.stp rfl rfl (fl_bo rfl) rfl ?_
        refine fl_Tq.ld (p := 280) (τ := 79) (n := 29780) (z := (0, 0, 0)) (k := n + 2) rfl (fl_bo rfl) rfl (at_2n (by omega)) (by omega) ?_
        refine fl_Tq.sv (p := 283) (τ := 82) (n := 1418) (z := (0, 0, 0)) (k := n) rfl (fl_bo rfl) rfl en (by omega) ?_
        have e2 := bl_cp_s (src := 280) (s0 := 2) (dst := 283) (d0 := 0) (n := n) (m := m) (fun h => absurd h (by decide))
        rw [Nat.zero_add, Nat.add_comm 2 n] at e2
        rw [e2]
        refine fl_Tq.stp rfl rfl (fl_bo rfl) rfl ?_
        refine fl_Tq.stp rfl rfl (fl_bo rfl) rfl ?_
        have := ih (n + 1) (by omega)
        rw [← at_inc (by omega)] at this
        exact this
    refine fl_Tq.stp rfl rfl (fl_bo rfl) rfl ?_
    refine fl_Tq.stp rfl rfl (fl_bo rfl) rfl ?_
    have := loop 1418 0 (by omega)
    rw [bl_cp_0] at this
    exact this
  refine hR _ ?_
  have hX : at_XI (bl_cp 280 2 283 0 1418 m) := by
    obtain ⟨a1, a2, a3, a4, a5, ⟨a6, a7, a8⟩, a9, a10⟩ := hg.2.2
    have ne : ∀ p j : Nat, p ≠ 283 → (bl_cp 280 2 283 0 1418 m).1 p j = m.1 p j := fun p j e => bl_cp_out (fun h => absurd h e)
    refine ⟨fun q hq i hi => ?_, ?_, fun p hp i => ?_, ?_, fun s hs => ?_, ⟨?_, ?_, ?_⟩, fun s hs => ?_, fun p j hp => ?_⟩
    · rw [ne q i (by omega)]
      exact a1 q hq i hi
    · unfold at_cnt at_nzr at a2 ⊢
      simp only [fun i => ne 272 i (by omega), fun i => ne 274 i (by omega)]
      exact a2
    · have hp : fl_N m.2.2 ≤ p := hp
      rw [ne p i (by unfold fl_N at hp; omega)]
      exact a3 p hp i
    · refine hg.AK.congr (fun j h1 h2 => ?_)
      try dsimp only
      rw [bl_cp_in (by omega) (by omega)]
      have : j - 2 - 0 + 2 = j := by omega
      rw [this]
      rfl
    · exact (a5 s hs).congr (fun j _ _ => by (try dsimp only); rw [ne 280 _ (by omega)])
    · exact a6.congr (fun j _ _ => by (try dsimp only); rw [ne 281 _ (by omega)])
    · rw [ne 281 0 (by omega)]; exact a7
    · rw [ne 281 1 (by omega)]; exact a8
    · exact (a9 s hs).congr (fun j _ _ => by (try dsimp only); rw [ne 281 _ (by omega)])
    · rw [ne p j (by omega)]
      exact a10 p j hp
  have ew : ∀ j, at_w (bl_cp 280 2 283 0 1418 m) j = at_w m j := fun j => by
    show ((bl_cp 280 2 283 0 1418 m).1 280 j).toInt = _
    rw [bl_cp_out (fun h => absurd h (by decide))]
    rfl
  refine ⟨hg.mk rfl hX (fun p j hp _ hne => ?_) (by rw [ew]; exact hg.w0) (by rw [ew]; exact hg.w1) (hg.AK.congr (fun j _ _ => ew j)), ⟨Nat.le_refl _, fun p j hne => ⟨_, List.mem_singleton.mpr rfl, ?_⟩⟩, rfl⟩
  · by_cases e : p = 283
    · subst e
      rw [k82]
      decide +kernel
    · exact absurd (bl_cp_out (fun h => absurd h e)) hne
  · by_cases e : p = 283
    · subst e
      refine ⟨k82.symm, ?_⟩
      rw [if_neg (by decide)]
      by_cases hj : j < 0 + 1418
      · show (0 : Int) ≤ j ∧ (j : Int) ≤ 1417
        omega
      · exact absurd (bl_cp_out (fun _ => Or.inr (by omega))) hne
    · exact absurd (bl_cp_out (fun h => absurd h e)) hne
theorem at_v239 : at_Valid at_XI (pw_P L xs) (239, [.inl (76, some 277)], [], none, false, [(79, false, 2, 1419)]) := by
  intro m vs hg hk _
  obtain ⟨r, rfl, hk2⟩ := at_ag277 hk
  have hr0 := at_agnil (vs := r) hk2
  subst hr0
  have hR : ∀ Q : Option fl_V → fl_M → Prop, Q none (bl_cp 283 0 280 2 1418 m) → fl_Tq (pw_P L xs) 239 0 (fl_args (am_mxl (pw_P L xs) 239) [at_this]) [] m Q := by
    intro Q k
    have loop : ∀ (d n : Nat), n + d = 1418 → fl_Tq (pw_P L xs) 239 2 [some (.inr (.inr (.inl (76, 277)))), some (.inl (Int32.ofNat n))] [] (bl_cp 283 0 280 2 n m) Q := by
      intro d
      induction d with
      | zero =>
        intro n hn
        have hn : n = 1418 := by omega
        subst hn
        refine fl_Tq.stp rfl rfl (fl_bo rfl) rfl ?_
        refine fl_Tq.stp rfl rfl (fl_bo rfl) rfl ?_
        refine fl_Tq.jt rfl (fl_bo rfl) (by decide +kernel) rfl ?_
        exact fl_Tq.ret rfl rfl rfl k
      | succ d ih =>
        intro n hn
        have en := at_ofN (k := n) (by omega)
        refine fl_Tq.stp rfl rfl (fl_bo rfl) rfl ?_
        refine fl_Tq.stp rfl rfl (fl_bo rfl) rfl ?_
        refine fl_Tq.jf rfl (fl_bo rfl) ?_ rfl ?_
        · rw [at_c2, en]
          exact decide_eq_false (by show ¬ (0 ≤ (n : Int) - (1418 : Int)); omega)
        refine fl_Tq.stp rfl rfl (fl_bo rfl) rfl ?_
        refine fl_Tq.stp rfl rfl (fl_bo rfl) rfl ?_
        refine fl_Tq.stp rfl rfl (fl_bo rfl) rfl ?_
        refine fl_Tq.stp rfl rfl (fl_bo rfl) rfl ?_
        refine fl_Tq.stp rfl rfl (fl_bo rfl) rfl ?_
        refine fl_Tq.stp rfl rfl (fl_bo rfl) rfl ?_
        refine fl_Tq.stp rfl rfl (fl_bo rfl) rfl ?_
        refine fl_Tq.stp rfl rfl (fl_bo rfl) rfl ?_
        refine fl_Tq.ld (p := 283) (τ := 82) (n := 1418) (z := (0, 0, 0)) (k := n) rfl (fl_bo rfl) rfl en (by omega) ?_
        refine fl_Tq.sv (p := 280) (τ := 79) (n := 29780) (z := (0, 0, 0)) (k := n + 2) rfl (fl_bo rfl) rfl (at_2n (by omega)) (by omega) ?_
        have e2 := bl_cp_s (src := 283) (s0 := 0) (dst := 280) (d0 := 2) (n := n) (m := m) (fun h => absurd h (by decide))
        rw [Nat.zero_add, Nat.add_comm 2 n] at e2
        rw [e2]
        refine fl_Tq.stp rfl rfl (fl_bo rfl) rfl ?_
        refine fl_Tq.stp rfl rfl (fl_bo rfl) rfl ?_
        have := ih (n + 1) (by omega)
        rw [← at_inc (by omega)] at this
        exact this
    refine fl_Tq.stp rfl rfl (fl_bo rfl) rfl ?_
    refine fl_Tq.stp rfl rfl (fl_bo rfl) rfl ?_
    have := loop 1418 0 (by omega)
    rw [bl_cp_0] at this
    exact this
  refine hR _ ?_
  have ne : ∀ p j : Nat, (p = 280 → j < 2 ∨ 1420 ≤ j) → (bl_cp 283 0 280 2 1418 m).1 p j = m.1 p j := fun p j e => bl_cp_out (fun h => by have := e h; omega)
  have hX : at_XI (bl_cp 283 0 280 2 1418 m) := by
    refine hg.2.2.mk280 rfl (fun p j e => ne p j (fun h => absurd h e)) (fun s hs => (hg.2.2.2.2.2.2.1 s hs).congr (fun j _ _ => ?_))
    try dsimp only
    rw [ne 280 _ (fun _ => Or.inr (by omega))]
  have ew : ∀ j, j < 2 → at_w (bl_cp 283 0 280 2 1418 m) j = at_w m j := fun j hj => by
    show ((bl_cp 283 0 280 2 1418 m).1 280 j).toInt = _
    rw [ne 280 j (fun _ => Or.inl hj)]
    rfl
  refine ⟨hg.mk rfl hX (fun p j hp _ hne => absurd (ne p j (fun h => absurd h hp)) hne) (by rw [ew 0 (by decide)]; exact hg.w0) (by rw [ew 1 (by decide)]; exact hg.w1) (hg.2.2.2.2.2.1.congr (fun j h1 h2 => ?_)), ⟨Nat.le_refl _, fun p j hne => ⟨_, List.mem_singleton.mpr rfl, ?_⟩⟩, rfl⟩
  · show ((bl_cp 283 0 280 2 1418 m).1 280 j).toInt = _
    rw [bl_cp_in h1 (by omega)]
    have : j - 2 + 0 = j - 2 := by omega
    rw [this]
  · by_cases e : p = 280
    · subst e
      refine ⟨fk_K_280.symm, ?_⟩
      rw [if_neg (by decide)]
      by_cases hj : 2 ≤ j ∧ j < 1420
      · show (2 : Int) ≤ j ∧ (j : Int) ≤ 1419
        omega
      · exact absurd (ne 280 j (fun _ => by omega)) hne
    · exact absurd (ne p j (fun h => absurd h e)) hne
end ATBL

end

/-! 88.image.lean.txt -/
section
/-! ===== image, back ===== -/
section ATIM
variable {L : Nat} {xs : Nat → Int32}
theorem at_v323 : at_Valid at_XI (pw_P L xs) (323, [.inl (76, some 277)], [], some (.inr (false, -2147483648, 2147483647)), false, [(80, false, 0, 29779)]) := by
  intro m vs hg hk _
  obtain ⟨r, rfl, hk2⟩ := at_ag277 hk
  have hr0 := at_agnil (vs := r) hk2
  subst hr0
  have k81 : fk_K 281 = 80 := by decide +kernel
  refine fl_Tq.stp rfl rfl (fl_bo rfl) rfl ?_
  refine fl_Tq.stp rfl rfl (fl_bo rfl) rfl ?_
  refine fl_Tq.stp rfl rfl (fl_bo rfl) rfl ?_
  refine fl_Tq.stp rfl rfl (fl_bo rfl) rfl ?_
  refine fl_Tq.cal rfl rfl (fl_bo rfl) rfl ?_
  refine at_copy (p := 280) (q := 281) (tp := 79) (tq := 80) fk_K_280 k81 (by decide) (by decide) rfl rfl (by decide) ?_
  refine fl_Tq.stp rfl rfl (fl_bo rfl) rfl ?_
  refine fl_Tq.stp rfl rfl (fl_bo rfl) rfl ?_
  refine fl_Tq.stp rfl rfl (fl_bo rfl) rfl ?_
  refine fl_Tq.ld (p := 280) (τ := 79) (n := 29780) (z := (0, 0, 0)) (k := 7) rfl (fl_bo rfl) rfl (by decide +kernel) (by decide) ?_
  refine fl_Tq.ret rfl rfl rfl ?_
  have ne : ∀ p j : Nat, (p = 281 → 29780 ≤ j) → (bl_cp 280 0 281 0 29780 m).1 p j = m.1 p j := fun p j e => bl_cp_out (fun h => by have := e h; omega)
  have hin : ∀ j : Nat, j < 29780 → (bl_cp 280 0 281 0 29780 m).1 281 j = m.1 280 j := fun j hj => by
    rw [bl_cp_in (by omega) (by omega)]
    rfl
  have hX : at_XI (bl_cp 280 0 281 0 29780 m) := by
    obtain ⟨a1, a2, a3, a4, a5, ⟨a6, a7, a8⟩, a9, a10⟩ := hg.2.2
    refine ⟨fun q hq i hi => ?_, ?_, fun p hp i => ?_, ?_, fun s hs => ?_, ⟨?_, ?_, ?_⟩, fun s hs => ?_, fun p j hp => ?_⟩
    · rw [ne q i (by omega)]
      exact a1 q hq i hi
    · unfold at_cnt at_nzr at a2 ⊢
      simp only [fun i => ne 272 i (by omega), fun i => ne 274 i (by omega)]
      exact a2
    · have hp : fl_N m.2.2 ≤ p := hp
      rw [ne p i (by unfold fl_N at hp; omega)]
      exact a3 p hp i
    · exact a4.congr (fun j _ _ => by (try dsimp only); rw [ne 283 _ (by omega)])
    · exact (a5 s hs).congr (fun j _ _ => by (try dsimp only); rw [ne 280 _ (by omega)])
    · exact hg.AK.congr (fun j _ _ => by (try dsimp only); rw [hin j (by omega)]; rfl)
    · rw [hin 0 (by decide)]; exact hg.w0
    · rw [hin 1 (by decide)]; exact hg.w1
    · exact (a5 s hs).congr (fun j _ _ => by (try dsimp only); rw [hin _ (by omega)])
    · rw [ne p j (by omega)]
      exact a10 p j hp
  have ew : ∀ j, at_w (bl_cp 280 0 281 0 29780 m) j = at_w m j := fun j => by
    show ((bl_cp 280 0 281 0 29780 m).1 280 j).toInt = _
    rw [ne 280 j (by omega)]
    rfl
  obtain ⟨b1, b2⟩ := at_i32 ((bl_cp 280 0 281 0 29780 m).1 280 7)
  refine ⟨hg.mk rfl hX (fun p j hp _ hne => ?_) (by rw [ew]; exact hg.w0) (by rw [ew]; exact hg.w1) (hg.AK.congr (fun j _ _ => ew j)), ⟨Nat.le_refl _, fun p j hne => ⟨_, List.mem_singleton.mpr rfl, ?_⟩⟩, ⟨_, rfl, b1, b2, fun h => by cases h⟩⟩
  · by_cases e : p = 281
    · subst e
      rw [k81]
      decide +kernel
    · exact absurd (ne p j (fun h => absurd h e)) hne
  · by_cases e : p = 281
    · subst e
      refine ⟨k81.symm, ?_⟩
      rw [if_neg (by decide)]
      by_cases hj : j < 29780
      · show (0 : Int) ≤ j ∧ (j : Int) ≤ 29779
        omega
      · exact absurd (ne 281 j (fun _ => by omega)) hne
    · exact absurd (ne p j (fun h => absurd h e)) hne
theorem at_v324 : at_Valid at_XI (pw_P L xs) (324, [.inl (76, some 277)], [], some (.inr (false, -2147483648, 2147483647)), false, [(79, false, 0, 29779)]) := by
  intro m vs hg hk _
  obtain ⟨r, rfl, hk2⟩ := at_ag277 hk
  have hr0 := at_agnil (vs := r) hk2
  subst hr0
  have k81 : fk_K 281 = 80 := by decide +kernel
  refine fl_Tq.stp rfl rfl (fl_bo rfl) rfl ?_
  refine fl_Tq.stp rfl rfl (fl_bo rfl) rfl ?_
  refine fl_Tq.stp rfl rfl (fl_bo rfl) rfl ?_
  refine fl_Tq.stp rfl rfl (fl_bo rfl) rfl ?_
  refine fl_Tq.cal rfl rfl (fl_bo rfl) rfl ?_
  refine at_copy (p := 281) (q := 280) (tp := 80) (tq := 79) k81 fk_K_280 (by decide) (by decide) rfl rfl (by decide) ?_
  refine fl_Tq.stp rfl rfl (fl_bo rfl) rfl ?_
  refine fl_Tq.stp rfl rfl (fl_bo rfl) rfl ?_
  refine fl_Tq.stp rfl rfl (fl_bo rfl) rfl ?_
  refine fl_Tq.ld (p := 280) (τ := 79) (n := 29780) (z := (0, 0, 0)) (k := 7) rfl (fl_bo rfl) rfl (by decide +kernel) (by decide) ?_
  refine fl_Tq.ret rfl rfl rfl ?_
  have ne : ∀ p j : Nat, (p = 280 → 29780 ≤ j) → (bl_cp 281 0 280 0 29780 m).1 p j = m.1 p j := fun p j e => bl_cp_out (fun h => by have := e h; omega)
  have hin : ∀ j : Nat, j < 29780 → (bl_cp 281 0 280 0 29780 m).1 280 j = m.1 281 j := fun j hj => by
    rw [bl_cp_in (by omega) (by omega)]
    rfl
  obtain ⟨a1, a2, a3, a4, a5, ⟨a6, a7, a8⟩, a9, a10⟩ := id hg.2.2
  have hX : at_XI (bl_cp 281 0 280 0 29780 m) := by
    refine hg.2.2.mk280 rfl (fun p j e => ne p j (fun h => absurd h e)) (fun s hs => (a9 s hs).congr (fun j _ _ => ?_))
    try dsimp only
    rw [hin _ (by omega)]
  have ew : ∀ j, j < 29780 → at_w (bl_cp 281 0 280 0 29780 m) j = (m.1 281 j).toInt := fun j hj => by
    show ((bl_cp 281 0 280 0 29780 m).1 280 j).toInt = _
    rw [hin j hj]
  obtain ⟨b1, b2⟩ := at_i32 ((bl_cp 281 0 280 0 29780 m).1 280 7)
  refine ⟨hg.mk rfl hX (fun p j hp _ hne => absurd (ne p j (fun h => absurd h hp)) hne) (by rw [ew 0 (by decide)]; exact a7) (by rw [ew 1 (by decide)]; exact a8) (a6.congr (fun j _ _ => ew j (by omega))), ⟨Nat.le_refl _, fun p j hne => ⟨_, List.mem_singleton.mpr rfl, ?_⟩⟩, ⟨_, rfl, b1, b2, fun h => by cases h⟩⟩
  by_cases e : p = 280
  · subst e
    refine ⟨fk_K_280.symm, ?_⟩
    rw [if_neg (by decide)]
    by_cases hj : j < 29780
    · show (0 : Int) ≤ j ∧ (j : Int) ≤ 29779
      omega
    · exact absurd (ne 280 j (fun _ => by omega)) hne
  · exact absurd (ne p j (fun h => absurd h e)) hne
/-! ===== keep, undo ===== -/
theorem at_st240 {x y : Int32} {m : fl_M} {Q : Option fl_V → fl_M → Prop} (hx : 0 ≤ x.toInt ∧ x.toInt ≤ 20) (hy : 0 ≤ y.toInt ∧ y.toInt ≤ 20) (k : ∀ v : Int32, v.toInt = 1420 + 1418 * ((x.toInt + y.toInt) % 20) → Q (some (.inl v)) m) : fl_Tq (pw_P L xs) 240 0 (fl_args (am_mxl (pw_P L xs) 240) [.inl x, .inl y]) [] m Q := by
  refine fl_Tq.stp rfl rfl (fl_bo rfl) rfl ?_
  refine fl_Tq.stp rfl rfl (fl_bo rfl) rfl ?_
  refine fl_Tq.stp rfl rfl (fl_bo rfl) rfl ?_
  refine fl_Tq.stp rfl rfl (fl_bo rfl) rfl ?_
  refine fl_Tq.stp rfl rfl (fl_bo rfl) rfl ?_
  refine fl_Tq.stp rfl rfl (fl_bo rfl) rfl ?_
  refine fl_Tq.rm rfl (fl_bo rfl) (by decide +kernel) ?_
  refine fl_Tq.stp rfl rfl (fl_bo rfl) rfl ?_
  refine fl_Tq.stp rfl rfl (fl_bo rfl) rfl ?_
  refine fl_Tq.ret rfl rfl rfl (k _ ?_)
  dsimp only
  have es := at_add32 (x := x) (y := y) (by omega) (by omega)
  have e20 : (Int8.ofInt 20).toInt32.toInt = 20 := by decide +kernel
  have e18 : (Int16.ofInt 1418).toInt32.toInt = 1418 := by decide +kernel
  have e14 : (Int16.ofInt 1420).toInt32.toInt = 1420 := by decide +kernel
  generalize x + y = s at es ⊢
  generalize (Int8.ofInt 20).toInt32 = t at e20 ⊢
  generalize (Int16.ofInt 1418).toInt32 = u at e18 ⊢
  generalize (Int16.ofInt 1420).toInt32 = w at e14 ⊢
  have eq : (s / t).toInt = s.toInt / 20 := by
    rw [Int32.toInt_div, e20, Int.tdiv_eq_ediv_of_nonneg (by omega)]
    exact Int.bmod_eq_of_le (by omega) (by omega)
  have em : (s / t * t).toInt = s.toInt / 20 * 20 := by
    rw [at_mul32] <;> rw [eq, e20] <;> omega
  have er : (s - s / t * t).toInt = s.toInt % 20 := by
    rw [at_sub32] <;> rw [em] <;> omega
  have e1 : (u * (s - s / t * t)).toInt = 1418 * (s.toInt % 20) := by
    rw [at_mul32] <;> rw [er, e18] <;> omega
  rw [at_add32] <;> rw [e14, e1] <;> omega
end ATIM

end

/-! 89.01.steps.lean.txt -/
section
/-! ===== keep, undo ===== -/
theorem bl_un {f : Nat → Nat → Int32} {p k q j : Nat} {x : Int32} (h : q = p → j ≠ k) : fl_up f p k x q j = f q j := by
  unfold fl_up
  rw [if_neg (fun e => h e.1 e.2)]
theorem bl_ue {f : Nat → Nat → Int32} {p k : Nat} {x : Int32} : fl_up f p k x p k = x := by
  unfold fl_up
  rw [if_pos ⟨rfl, rfl⟩]
theorem at_rem20 {s t : Int32} (ht : t.toInt = 20) (hs : 0 ≤ s.toInt) : (s - s / t * t).toInt = s.toInt % 20 := by
  have hb := at_i32 s
  have eq : (s / t).toInt = s.toInt / 20 := by
    rw [Int32.toInt_div, ht, Int.tdiv_eq_ediv_of_nonneg hs]
    exact Int.bmod_eq_of_le (by omega) (by omega)
  have em : (s / t * t).toInt = s.toInt / 20 * 20 := by
    rw [at_mul32] <;> rw [eq, ht] <;> omega
  rw [at_sub32] <;> rw [em] <;> omega
section ATST
variable {L : Nat} {xs : Nat → Int32}
theorem at_v242 : at_Valid at_XI (pw_P L xs) (242, [.inl (76, some 277)], [], some (.inr (false, -1, 19)), false, [(79, false, 0, 0), (79, false, 2, 1419)]) := by
  intro m vs hg hk _
  obtain ⟨r, rfl, hk2⟩ := at_ag277 hk
  have hr0 := at_agnil (vs := r) hk2
  subst hr0
  have w0 : 0 ≤ (m.1 280 0).toInt ∧ (m.1 280 0).toInt ≤ 20 := hg.w0
  have w1 : 0 ≤ (m.1 280 1).toInt ∧ (m.1 280 1).toInt ≤ 19 := hg.w1
  refine fl_Tq.stp rfl rfl (fl_bo rfl) rfl ?_
  refine fl_Tq.stp rfl rfl (fl_bo rfl) rfl ?_
  refine fl_Tq.stp rfl rfl (fl_bo rfl) rfl ?_
  refine fl_Tq.ld (p := 280) (τ := 79) (n := 29780) (z := (0, 0, 0)) (k := 0) rfl (fl_bo rfl) rfl rfl (by decide) ?_
  by_cases h0 : (m.1 280 0).toInt = 0
  · refine fl_Tq.zf rfl (fl_bo rfl) ?_ rfl ?_
    · rw [at_c1, h0]; rfl
    refine fl_Tq.stp rfl rfl (fl_bo rfl) rfl ?_
    refine fl_Tq.ret rfl rfl rfl ⟨hg, ⟨Nat.le_refl _, fun p j hne => absurd rfl hne⟩, ⟨_, rfl, by decide +kernel, by decide +kernel, fun h => by cases h⟩⟩
  · refine fl_Tq.zt rfl (fl_bo rfl) ?_ rfl ?_
    · rw [at_c1]; show (!decide ((m.1 280 0).toInt = 0)) = true; rw [decide_eq_false h0]; rfl
    refine fl_Tq.stp rfl rfl (fl_bo rfl) rfl ?_
    refine fl_Tq.stp rfl rfl (fl_bo rfl) rfl ?_
    refine fl_Tq.stp rfl rfl (fl_bo rfl) rfl ?_
    refine fl_Tq.stp rfl rfl (fl_bo rfl) rfl ?_
    refine fl_Tq.ld (p := 280) (τ := 79) (n := 29780) (z := (0, 0, 0)) (k := 0) rfl (fl_bo rfl) rfl rfl (by decide) ?_
    refine fl_Tq.stp rfl rfl (fl_bo rfl) rfl ?_
    refine fl_Tq.stp rfl rfl (fl_bo rfl) rfl ?_
    refine fl_Tq.sv (p := 280) (τ := 79) (n := 29780) (z := (0, 0, 0)) (k := 0) rfl (fl_bo rfl) rfl rfl (by decide) ?_
    dsimp only
    have e1 : (Int32.ofInt 1).toInt = 1 := rfl
    have hv0 := at_sub32 (x := m.1 280 0) (y := Int32.ofInt 1) (by omega) (by omega)
    generalize m.1 280 0 - Int32.ofInt 1 = v0 at hv0
    refine fl_Tq.stp rfl rfl (fl_bo rfl) rfl ?_
    refine fl_Tq.stp rfl rfl (fl_bo rfl) rfl ?_
    refine fl_Tq.stp rfl rfl (fl_bo rfl) rfl ?_
    refine fl_Tq.ld (p := 280) (τ := 79) (n := 29780) (z := (0, 0, 0)) (k := 1) rfl (fl_bo rfl) rfl rfl (by decide) ?_
    refine fl_Tq.stp rfl rfl (fl_bo rfl) rfl ?_
    refine fl_Tq.stp rfl rfl (fl_bo rfl) rfl ?_
    refine fl_Tq.stp rfl rfl (fl_bo rfl) rfl ?_
    refine fl_Tq.ld (p := 280) (τ := 79) (n := 29780) (z := (0, 0, 0)) (k := 0) rfl (fl_bo rfl) rfl rfl (by decide) ?_
    have q1 : fl_up m.1 280 0 v0 280 1 = m.1 280 1 := bl_un (fun _ => by decide)
    have q0 : fl_up m.1 280 0 v0 280 0 = v0 := bl_ue
    refine fl_Tq.cal rfl rfl (fl_bo rfl) rfl ?_
    refine at_st240 (x := fl_up m.1 280 0 v0 280 1) (y := fl_up m.1 280 0 v0 280 0) (by rw [q1]; omega) (by rw [q0]; omega) (fun v hv => ?_)
    rw [q1, q0] at hv
    obtain ⟨s, hs, hsn⟩ : ∃ s : Nat, s < 20 ∧ v.toInt = ((1420 + 1418 * s : Nat) : Int) := ⟨(((m.1 280 1).toInt + v0.toInt) % 20).toNat, by omega, by omega⟩
    refine fl_Tq.stp rfl rfl (fl_bo rfl) rfl ?_
    refine fl_Tq.stp rfl rfl (fl_bo rfl) rfl ?_
    refine fl_Tq.stp rfl rfl (fl_bo rfl) rfl ?_
    have hR : ∀ Q : Option fl_V → fl_M → Prop, (∀ m2, m2 = bl_cp 280 (1420 + 1418 * s) 280 2 1418 (fl_up m.1 280 0 v0, m.2) → Q (some (.inl (m2.1 280 0))) m2) → fl_Tq (pw_P L xs) 242 39 [some (.inr (.inr (.inl (76, 277)))), some (.inl v), some (.inl (Int32.ofNat 0))] [] (fl_up m.1 280 0 v0, m.2) Q := by
      intro Q k
      have loop : ∀ (d n : Nat), n + d = 1418 → fl_Tq (pw_P L xs) 242 39 [some (.inr (.inr (.inl (76, 277)))), some (.inl v), some (.inl (Int32.ofNat n))] [] (bl_cp 280 (1420 + 1418 * s) 280 2 n (fl_up m.1 280 0 v0, m.2)) Q := by
        intro d
        induction d with
        | zero =>
          intro n hn
          have hn : n = 1418 := by omega
          subst hn
          refine fl_Tq.stp rfl rfl (fl_bo rfl) rfl ?_
          refine fl_Tq.stp rfl rfl (fl_bo rfl) rfl ?_
          refine fl_Tq.jt rfl (fl_bo rfl) (by decide +kernel) rfl ?_
          refine fl_Tq.stp rfl rfl (fl_bo rfl) rfl ?_
          refine fl_Tq.stp rfl rfl (fl_bo rfl) rfl ?_
          refine fl_Tq.stp rfl rfl (fl_bo rfl) rfl ?_
          refine fl_Tq.ld (p := 280) (τ := 79) (n := 29780) (z := (0, 0, 0)) (k := 0) rfl (fl_bo rfl) rfl rfl (by decide) ?_
          exact fl_Tq.ret rfl rfl rfl (k _ rfl)
        | succ d ih =>
          intro n hn
          have en := at_ofN (k := n) (by omega)
          refine fl_Tq.stp rfl rfl (fl_bo rfl) rfl ?_
          refine fl_Tq.stp rfl rfl (fl_bo rfl) rfl ?_
          refine fl_Tq.jf rfl (fl_bo rfl) ?_ rfl ?_
          · rw [at_c2, en]
            exact decide_eq_false (by show ¬ (0 ≤ (n : Int) - (1418 : Int)); omega)
          have h2 : (Int32.ofInt 2 + Int32.ofNat n).toInt = ((2 + n : Nat) : Int) := by rw [at_2n (by omega), Nat.add_comm]
          have h3 : (v + Int32.ofNat n).toInt = ((1420 + 1418 * s + n : Nat) : Int) := by
            rw [at_add32] <;> omega
          refine fl_Tq.stp rfl rfl (fl_bo rfl) rfl ?_
          refine fl_Tq.stp rfl rfl (fl_bo rfl) rfl ?_
          refine fl_Tq.stp rfl rfl (fl_bo rfl) rfl ?_
          refine fl_Tq.stp rfl rfl (fl_bo rfl) rfl ?_
          refine fl_Tq.stp rfl rfl (fl_bo rfl) rfl ?_
          refine fl_Tq.stp rfl rfl (fl_bo rfl) rfl ?_
          refine fl_Tq.stp rfl rfl (fl_bo rfl) rfl ?_
          refine fl_Tq.stp rfl rfl (fl_bo rfl) rfl ?_
          refine fl_Tq.stp rfl rfl (fl_bo rfl) rfl ?_
          refine fl_Tq.stp rfl rfl (fl_bo rfl) rfl ?_
          refine fl_Tq.ld (p := 280) (τ := 79) (n := 29780) (z := (0, 0, 0)) (k := 1420 + 1418 * s + n) rfl (fl_bo rfl) rfl h3 (by omega) ?_
          refine fl_Tq.sv (p := 280) (τ := 79) (n := 29780) (z := (0, 0, 0)) (k := 2 + n) rfl (fl_bo rfl) rfl h2 (by omega) ?_
          rw [bl_cp_s (src := 280) (s0 := 1420 + 1418 * s) (dst := 280) (d0 := 2) (n := n) (fun _ => Or.inr (by omega))]
          refine fl_Tq.stp rfl rfl (fl_bo rfl) rfl ?_
          refine fl_Tq.stp rfl rfl (fl_bo rfl) rfl ?_
          have := ih (n + 1) (by omega)
          rw [← at_inc (by omega)] at this
          exact this
      have := loop 1418 0 (by omega)
      rw [bl_cp_0] at this
      exact this
    refine hR _ (fun m2 em2 => ?_)
    have ne : ∀ p j : Nat, (p = 280 → j = 1 ∨ 1420 ≤ j) → m2.1 p j = m.1 p j := fun p j e => by
      rw [em2, bl_cp_out (fun h => by have := e h; omega)]
      exact bl_un (fun h => by have := e h; omega)
    have e0 : m2.1 280 0 = v0 := by
      rw [em2, bl_cp_out (fun _ => Or.inl (by decide))]
      show fl_up m.1 280 0 v0 280 0 = v0
      exact bl_ue
    have eh : m2.2 = m.2 := by rw [em2]; rfl
    have hX : at_XI m2 := by
      refine hg.2.2.mk280 (by rw [eh]) (fun p j e => ne p j (fun h => absurd h e)) (fun s hs => (hg.2.2.2.2.2.2.1 s hs).congr (fun j _ _ => ?_))
      try dsimp only
      rw [ne 280 _ (fun _ => Or.inr (by omega))]
    refine ⟨hg.mk (by rw [eh]) hX (fun p j hp _ hne => absurd (ne p j (fun h => absurd h hp)) hne) (by unfold at_w; rw [e0]; omega) (by unfold at_w; rw [ne 280 1 (by omega)]; exact w1) ((hg.2.2.2.2.2.2.1 s hs).congr (fun j h1 h2 => ?_)), ⟨by rw [eh]; exact Nat.le_refl _, fun p j hne => ?_⟩, ⟨_, rfl, by rw [e0]; omega, by rw [e0]; omega, fun h => by cases h⟩⟩
    · show (m2.1 280 j).toInt = _
      rw [em2, bl_cp_in h1 (by omega)]
      have : j - 2 + (1420 + 1418 * s) = 1420 + 1418 * s + (j - 2) := by omega
      rw [this]
      show (fl_up m.1 280 0 v0 280 _).toInt = _
      rw [bl_un (fun _ => by omega)]
    · by_cases e : p = 280
      · subst e
        by_cases hj : j = 0
        · subst hj
          refine ⟨(79, false, 0, 0), by simp, fk_K_280.symm, ?_⟩
          rw [if_neg (by decide)]
          exact ⟨Int.le_refl _, Int.le_refl _⟩
        · refine ⟨(79, false, 2, 1419), by simp, fk_K_280.symm, ?_⟩
          rw [if_neg (by decide)]
          by_cases hj2 : 2 ≤ j ∧ j < 1420
          · show (2 : Int) ≤ j ∧ (j : Int) ≤ 1419
            omega
          · exact absurd (ne 280 j (fun _ => by omega)) hne
      · exact absurd (ne p j (fun h => absurd h e)) hne
theorem at_v241 : at_Valid at_XI (pw_P L xs) (241, [.inl (76, some 277)], [], none, false, [(79, false, 0, 1), (79, false, 1420, 29779)]) := by
  intro m vs hg hk _
  obtain ⟨r, rfl, hk2⟩ := at_ag277 hk
  have hr0 := at_agnil (vs := r) hk2
  subst hr0
  have w0 : 0 ≤ (m.1 280 0).toInt ∧ (m.1 280 0).toInt ≤ 20 := hg.w0
  have w1 : 0 ≤ (m.1 280 1).toInt ∧ (m.1 280 1).toInt ≤ 19 := hg.w1
  have e1 : (Int32.ofInt 1).toInt = 1 := rfl
  -- from place 38 on
  have tail : ∀ m1 : fl_M, m1.2 = m.2 → (∀ p j : Nat, (p = 280 → 2 ≤ j) → m1.1 p j = m.1 p j) → (0 ≤ (m1.1 280 0).toInt ∧ (m1.1 280 0).toInt ≤ 19) → (0 ≤ (m1.1 280 1).toInt ∧ (m1.1 280 1).toInt ≤ 19) →
      fl_Tq (pw_P L xs) 241 38 (fl_args (am_mxl (pw_P L xs) 241) [at_this]) [] m1 (fun v m' => at_Good at_XI m' ∧ at_MD m m' [(79, false, 0, 1), (79, false, 1420, 29779)] ∧ at_rtc none false m' v) := by
    intro m1 eh1 ne1 x0 x1
    refine fl_Tq.stp rfl rfl (fl_bo rfl) rfl ?_
    refine fl_Tq.stp rfl rfl (fl_bo rfl) rfl ?_
    refine fl_Tq.stp rfl rfl (fl_bo rfl) rfl ?_
    refine fl_Tq.ld (p := 280) (τ := 79) (n := 29780) (z := (0, 0, 0)) (k := 1) rfl (fl_bo rfl) rfl rfl (by decide) ?_
    refine fl_Tq.stp rfl rfl (fl_bo rfl) rfl ?_
    refine fl_Tq.stp rfl rfl (fl_bo rfl) rfl ?_
    refine fl_Tq.stp rfl rfl (fl_bo rfl) rfl ?_
    refine fl_Tq.ld (p := 280) (τ := 79) (n := 29780) (z := (0, 0, 0)) (k := 0) rfl (fl_bo rfl) rfl rfl (by decide) ?_
    refine fl_Tq.cal rfl rfl (fl_bo rfl) rfl ?_
    refine at_st240 (x := m1.1 280 1) (y := m1.1 280 0) (by omega) (by omega) (fun v hv => ?_)
    obtain ⟨s, hs, hsn⟩ : ∃ s : Nat, s < 20 ∧ v.toInt = ((1420 + 1418 * s : Nat) : Int) := ⟨(((m1.1 280 1).toInt + (m1.1 280 0).toInt) % 20).toNat, by omega, by omega⟩
    refine fl_Tq.stp rfl rfl (fl_bo rfl) rfl ?_
    refine fl_Tq.stp rfl rfl (fl_bo rfl) rfl ?_
    refine fl_Tq.stp rfl rfl (fl_bo rfl) rfl ?_
    have hR : ∀ Q : Option fl_V → fl_M → Prop, (∀ m2, m2 = bl_cp 280 2 280 (1420 + 1418 * s) 1418 m1 → Q none (fl_up m2.1 280 0 (m2.1 280 0 + Int32.ofInt 1), m2.2)) → fl_Tq (pw_P L xs) 241 56 [some (.inr (.inr (.inl (76, 277)))), some (.inl v), some (.inl (Int32.ofNat 0))] [] m1 Q := by
      intro Q k
      have loop : ∀ (d n : Nat), n + d = 1418 → fl_Tq (pw_P L xs) 241 56 [some (.inr (.inr (.inl (76, 277)))), some (.inl v), some (.inl (Int32.ofNat n))] [] (bl_cp 280 2 280 (1420 + 1418 * s) n m1) Q := by
        intro d
        induction d with
        | zero =>
          intro n hn
          have hn : n = 1418 := by omega
          subst hn
          refine fl_Tq.stp rfl rfl (fl_bo rfl) rfl ?_
          refine fl_Tq.stp rfl rfl (fl_bo rfl) rfl ?_
          refine fl_Tq.jt rfl (fl_bo rfl) (by decide +kernel) rfl ?_
          refine fl_Tq.stp rfl rfl (fl_bo rfl) rfl ?_
          refine fl_Tq.stp rfl rfl (fl_bo rfl) rfl ?_
          refine fl_Tq.stp rfl rfl (fl_bo rfl) rfl ?_
          refine fl_Tq.stp rfl rfl (fl_bo rfl) rfl ?_
          refine fl_Tq.ld (p := 280) (τ := 79) (n := 29780) (z := (0, 0, 0)) (k := 0) rfl (fl_bo rfl) rfl rfl (by decide) ?_
          refine fl_Tq.stp rfl rfl (fl_bo rfl) rfl ?_
          refine fl_Tq.stp rfl rfl (fl_bo rfl) rfl ?_
          refine fl_Tq.sv (p := 280) (τ := 79) (n := 29780) (z := (0, 0, 0)) (k := 0) rfl (fl_bo rfl) rfl rfl (by decide) ?_
          exact fl_Tq.ret rfl rfl rfl (k _ rfl)
        | succ d ih =>
          intro n hn
          have en := at_ofN (k := n) (by omega)
          refine fl_Tq.stp rfl rfl (fl_bo rfl) rfl ?_
          refine fl_Tq.stp rfl rfl (fl_bo rfl) rfl ?_
          refine fl_Tq.jf rfl (fl_bo rfl) ?_ rfl ?_
          · rw [at_c2, en]
            exact decide_eq_false (by show ¬ (0 ≤ (n : Int) - (1418 : Int)); omega)
          have h2 : (Int32.ofInt 2 + Int32.ofNat n).toInt = ((2 + n : Nat) : Int) := by rw [at_2n (by omega), Nat.add_comm]
          have h3 : (v + Int32.ofNat n).toInt = ((1420 + 1418 * s + n : Nat) : Int) := by
            rw [at_add32] <;> omega
          refine fl_Tq.stp rfl rfl (fl_bo rfl) rfl ?_
          refine fl_Tq.stp rfl rfl (fl_bo rfl) rfl ?_
          refine fl_Tq.stp rfl rfl (fl_bo rfl) rfl ?_
          refine fl_Tq.stp rfl rfl (fl_bo rfl) rfl ?_
          refine fl_Tq.stp rfl rfl (fl_bo rfl) rfl ?_
          refine fl_Tq.stp rfl rfl (fl_bo rfl) rfl ?_
          refine fl_Tq.stp rfl rfl (fl_bo rfl) rfl ?_
          refine fl_Tq.stp rfl rfl (fl_bo rfl) rfl ?_
          refine fl_Tq.stp rfl rfl (fl_bo rfl) rfl ?_
          refine fl_Tq.stp rfl rfl (fl_bo rfl) rfl ?_
          refine fl_Tq.ld (p := 280) (τ := 79) (n := 29780) (z := (0, 0, 0)) (k := 2 + n) rfl (fl_bo rfl) rfl h2 (by omega) ?_
          refine fl_Tq.sv (p := 280) (τ := 79) (n := 29780) (z := (0, 0, 0)) (k := 1420 + 1418 * s + n) rfl (fl_bo rfl) rfl h3 (by omega) ?_
          rw [bl_cp_s (src := 280) (s0 := 2) (dst := 280) (d0 := 1420 + 1418 * s) (n := n) (fun _ => Or.inl (by omega))]
          refine fl_Tq.stp rfl rfl (fl_bo rfl) rfl ?_
          refine fl_Tq.stp rfl rfl (fl_bo rfl) rfl ?_
          have := ih (n + 1) (by omega)
          rw [← at_inc (by omega)] at this
          exact this
      have := loop 1418 0 (by omega)
      rw [bl_cp_0] at this
      exact this
    refine hR _ (fun m2 em2 => ?_)
    have f0 : m2.1 280 0 = m1.1 280 0 := by rw [em2]; exact bl_cp_out (fun _ => Or.inl (by omega))
    have f1 : m2.1 280 1 = m1.1 280 1 := by rw [em2]; exact bl_cp_out (fun _ => Or.inl (by omega))
    have eh : m2.2 = m.2 := by rw [em2]; exact eh1
    have hv := at_add32 (x := m2.1 280 0) (y := Int32.ofInt 1) (by rw [f0]; omega) (by rw [f0]; omega)
    generalize m2.1 280 0 + Int32.ofInt 1 = v1 at hv
    have ne2 : ∀ p j : Nat, (p = 280 → 2 ≤ j ∧ (j < 1420 + 1418 * s ∨ 1420 + 1418 * s + 1418 ≤ j)) → fl_up m2.1 280 0 v1 p j = m.1 p j := fun p j e => by
      rw [bl_un (fun h => by have := e h; omega), em2, bl_cp_out (fun h => by have := e h; omega)]
      exact ne1 p j (fun h => (e h).1)
    have hA : at_AK (fun j => (fl_up m2.1 280 0 v1 280 (1420 + 1418 * s + (j - 2))).toInt) := by
      refine hg.AK.congr (fun j h1 h2 => ?_)
      try dsimp only
      rw [bl_un (fun _ => by omega), em2, bl_cp_in (by omega) (by omega), ne1 280 _ (fun _ => by omega)]
      have : 1420 + 1418 * s + (j - 2) - (1420 + 1418 * s) + 2 = j := by omega
      rw [this]
      rfl
    have hX : at_XI (fl_up m2.1 280 0 v1, m2.2) := by
      refine hg.2.2.mk280 (by show m2.2.2 = _; rw [eh]) (fun p j e => ne2 p j (fun h => absurd h e)) (fun s' hs' => ?_)
      by_cases es : s' = s
      · subst es
        exact hA
      · refine (hg.2.2.2.2.2.2.1 s' hs').congr (fun j h1 h2 => ?_)
        try dsimp only
        rw [ne2 280 _ (fun _ => by omega)]
    refine ⟨hg.mk (by show m2.2.2 = _; rw [eh]) hX (fun p j hp _ hne => absurd (ne2 p j (fun h => absurd h hp)) hne) ?_ ?_ (hg.AK.congr (fun j h1 h2 => ?_)), ⟨by show m.2.2 ≤ m2.2.2; rw [eh]; exact Nat.le_refl _, fun p j hne => ?_⟩, rfl⟩
    · show 0 ≤ (fl_up m2.1 280 0 v1 280 0).toInt ∧ (fl_up m2.1 280 0 v1 280 0).toInt ≤ 20
      rw [bl_ue, hv, f0]; omega
    · show 0 ≤ (fl_up m2.1 280 0 v1 280 1).toInt ∧ (fl_up m2.1 280 0 v1 280 1).toInt ≤ 19
      rw [bl_un (fun _ => by omega), f1]; omega
    · show (fl_up m2.1 280 0 v1 280 j).toInt = _
      rw [ne2 280 j (fun _ => by omega)]
      rfl
    · by_cases e : p = 280
      · subst e
        by_cases hj : j < 2
        · refine ⟨(79, false, 0, 1), by simp, fk_K_280.symm, ?_⟩
          rw [if_neg (by decide)]
          show (0 : Int) ≤ j ∧ (j : Int) ≤ 1
          omega
        · refine ⟨(79, false, 1420, 29779), by simp, fk_K_280.symm, ?_⟩
          rw [if_neg (by decide)]
          by_cases hj2 : 1420 ≤ j ∧ j < 29780
          · show (1420 : Int) ≤ j ∧ (j : Int) ≤ 29779
            omega
          · exact absurd (ne2 280 j (fun _ => by omega)) hne
      · exact absurd (ne2 p j (fun h => absurd h e)) hne
  refine fl_Tq.stp rfl rfl (fl_bo rfl) rfl ?_
  refine fl_Tq.stp rfl rfl (fl_bo rfl) rfl ?_
  refine fl_Tq.stp rfl rfl (fl_bo rfl) rfl ?_
  refine fl_Tq.ld (p := 280) (τ := 79) (n := 29780) (z := (0, 0, 0)) (k := 0) rfl (fl_bo rfl) rfl rfl (by decide) ?_
  refine fl_Tq.stp rfl rfl (fl_bo rfl) rfl ?_
  have e20 : (Int8.ofInt 20).toInt32.toInt = 20 := by decide +kernel
  by_cases h0 : (m.1 280 0).toInt = 20
  · refine fl_Tq.jf rfl (fl_bo rfl) ?_ rfl ?_
    · rw [at_c2, h0, e20]; rfl
    refine fl_Tq.stp rfl rfl (fl_bo rfl) rfl ?_
    refine fl_Tq.stp rfl rfl (fl_bo rfl) rfl ?_
    refine fl_Tq.stp rfl rfl (fl_bo rfl) rfl ?_
    refine fl_Tq.stp rfl rfl (fl_bo rfl) rfl ?_
    refine fl_Tq.stp rfl rfl (fl_bo rfl) rfl ?_
    refine fl_Tq.stp rfl rfl (fl_bo rfl) rfl ?_
    refine fl_Tq.ld (p := 280) (τ := 79) (n := 29780) (z := (0, 0, 0)) (k := 1) rfl (fl_bo rfl) rfl rfl (by decide) ?_
    refine fl_Tq.stp rfl rfl (fl_bo rfl) rfl ?_
    refine fl_Tq.stp rfl rfl (fl_bo rfl) rfl ?_
    refine fl_Tq.stp rfl rfl (fl_bo rfl) rfl ?_
    refine fl_Tq.rm rfl (fl_bo rfl) (by decide +kernel) ?_
    refine fl_Tq.sv (p := 280) (τ := 79) (n := 29780) (z := (0, 0, 0)) (k := 1) rfl (fl_bo rfl) rfl rfl (by decide) ?_
    dsimp only
    have hs := at_add32 (x := m.1 280 1) (y := Int32.ofInt 1) (by omega) (by omega)
    generalize m.1 280 1 + Int32.ofInt 1 = u1 at hs
    have hr := at_rem20 (s := u1) e20 (by omega)
    generalize u1 - u1 / (Int8.ofInt 20).toInt32 * (Int8.ofInt 20).toInt32 = u2 at hr
    refine fl_Tq.stp rfl rfl (fl_bo rfl) rfl ?_
    refine fl_Tq.stp rfl rfl (fl_bo rfl) rfl ?_
    refine fl_Tq.stp rfl rfl (fl_bo rfl) rfl ?_
    refine fl_Tq.stp rfl rfl (fl_bo rfl) rfl ?_
    refine fl_Tq.ld (p := 280) (τ := 79) (n := 29780) (z := (0, 0, 0)) (k := 0) rfl (fl_bo rfl) rfl rfl (by decide) ?_
    refine fl_Tq.stp rfl rfl (fl_bo rfl) rfl ?_
    refine fl_Tq.stp rfl rfl (fl_bo rfl) rfl ?_
    refine fl_Tq.sv (p := 280) (τ := 79) (n := 29780) (z := (0, 0, 0)) (k := 0) rfl (fl_bo rfl) rfl rfl (by decide) ?_
    have q0 : fl_up m.1 280 1 u2 280 0 = m.1 280 0 := bl_un (fun _ => by decide)
    refine tail _ rfl (fun p j e => ?_) ?_ ?_
    · show fl_up (fl_up m.1 280 1 u2) 280 0 _ p j = _
      rw [bl_un (fun h => by have := e h; omega), bl_un (fun h => by have := e h; omega)]
    · show 0 ≤ (fl_up (fl_up m.1 280 1 u2) 280 0 (fl_up m.1 280 1 u2 280 0 - Int32.ofInt 1) 280 0).toInt ∧ (fl_up (fl_up m.1 280 1 u2) 280 0 (fl_up m.1 280 1 u2 280 0 - Int32.ofInt 1) 280 0).toInt ≤ 19
      rw [bl_ue, q0, at_sub32 (by omega) (by omega)]
      omega
    · show 0 ≤ (fl_up (fl_up m.1 280 1 u2) 280 0 (fl_up m.1 280 1 u2 280 0 - Int32.ofInt 1) 280 1).toInt ∧ (fl_up (fl_up m.1 280 1 u2) 280 0 (fl_up m.1 280 1 u2 280 0 - Int32.ofInt 1) 280 1).toInt ≤ 19
      rw [bl_un (fun _ => by decide), bl_ue]
      omega
  · refine fl_Tq.jt rfl (fl_bo rfl) ?_ rfl ?_
    · rw [at_c2, e20]; show (!decide ((m.1 280 0).toInt - 20 = 0)) = true; rw [decide_eq_false (by omega)]; rfl
    exact tail m rfl (fun p j _ => rfl) (by omega) w1
end ATST

end

/-! 89.02.fpn.lean.txt -/
section
/-! ===== 64: no NaN comes of these ===== -/
theorem fp_t64 : FP.Core.b64.tails = 4503599627370496 := by decide +kernel
theorem fp_x64 : FP.Core.b64.exps = 2048 := by decide +kernel
theorem fp_qn64 : FP.Core.b64.qmin = -1074 := by decide +kernel
theorem fp_qx64 : FP.Core.b64.qmax = 971 := by decide +kernel
theorem fp_p64 : 2 ^ FP.Core.b64.p = 9007199254740992 := by decide +kernel
theorem fp_pi64 : ((FP.Core.b64.p : Nat) : Int) - 1 = 52 := by decide +kernel
def fp_g64 (d : FP.Core.Datum) : Prop := match d with
  | .nan => False
  | .inf _ => True
  | .fin _ c q => c < 9007199254740992 ∧ q ≤ 971
theorem fp_enc64 {d : FP.Core.Datum} (h : fp_g64 d) : FP.Core.encode FP.Core.b64 d % 9223372036854775808 ≤ 9218868437227405312 := by
  cases d with
  | nan => cases h
  | inf s =>
    show FP.Core.assemble FP.Core.b64 s (FP.Core.b64.exps - 1) 0 % 9223372036854775808 ≤ 9218868437227405312
    unfold FP.Core.assemble
    rw [fp_x64, fp_t64]
    have : s.toNat ≤ 1 := Bool.toNat_le s
    omega
  | fin s c q =>
    obtain ⟨h1, h2⟩ := h
    show (if c < FP.Core.b64.tails then FP.Core.assemble FP.Core.b64 s 0 c else FP.Core.assemble FP.Core.b64 s ((q - FP.Core.b64.qmin).toNat + 1) (c - FP.Core.b64.tails)) % 9223372036854775808 ≤ 9218868437227405312
    unfold FP.Core.assemble
    rw [fp_x64, fp_t64, fp_qn64]
    have : s.toNat ≤ 1 := Bool.toNat_le s
    split <;> omega
theorem fp_dec64 {n : Nat} (h : n % 9223372036854775808 ≤ 9218868437227405312) : fp_g64 (FP.Core.decode FP.Core.b64 n) := by
  unfold FP.Core.decode FP.Core.fieldE FP.Core.fieldT FP.Core.fieldS
  rw [fp_x64, fp_t64, fp_qn64]
  by_cases h1 : n / 4503599627370496 % 2048 = 2048 - 1
  · rw [if_pos h1]
    by_cases h2 : n % 4503599627370496 = 0
    · rw [if_pos h2]; exact True.intro
    · exfalso; omega
  · rw [if_neg h1]
    by_cases h2 : n / 4503599627370496 % 2048 = 0
    · rw [if_pos h2]
      exact ⟨by omega, by omega⟩
    · rw [if_neg h2]
      exact ⟨by omega, by omega⟩
theorem fp_fin64 {n : Nat} (h : n % 9223372036854775808 < 9218868437227405312) (h0 : n % 9223372036854775808 ≠ 0) : ∃ s d r, FP.Core.decode FP.Core.b64 n = .fin s d r ∧ d ≠ 0 := by
  unfold FP.Core.decode FP.Core.fieldE FP.Core.fieldT
  rw [fp_x64, fp_t64, fp_qn64]
  by_cases h1 : n / 4503599627370496 % 2048 = 2048 - 1
  · exfalso; omega
  · rw [if_neg h1]
    by_cases h2 : n / 4503599627370496 % 2048 = 0
    · rw [if_pos h2]
      exact ⟨_, _, _, rfl, by omega⟩
    · rw [if_neg h2]
      exact ⟨_, _, _, rfl, by omega⟩
theorem fp_bd64 (s : Bool) {c : Nat} (hc : c < 9007199254740992) (q : Int) : fp_g64 (FP.Core.bound FP.Core.b64 s c q) := by
  unfold FP.Core.bound
  rw [fp_qx64]
  by_cases h : q ≤ 971
  · rw [if_pos h]; exact ⟨hc, h⟩
  · rw [if_neg h]; exact True.intro
theorem fp_rr64 (s : Bool) (num den : Nat) (e : Int) : fp_g64 (FP.Core.roundRatio FP.Core.b64 s num den e) := by
  unfold FP.Core.roundRatio
  by_cases h : num = 0
  · rw [if_pos h]
    refine ⟨by decide, ?_⟩
    rw [fp_qn64]
    decide
  · rw [if_neg h]
    unfold FP.Core.roundAt FP.Core.settle
    rw [fp_p64, fp_t64]
    split
    · rename_i hc
      exact fp_bd64 s hc _
    · exact fp_bd64 s (by decide) _
theorem fp_rd64 {d : FP.Core.Datum} (h : d ≠ .nan) : fp_g64 (FP.Core.round FP.Core.b64 d) := by
  cases d with
  | nan => exact absurd rfl h
  | inf s => exact True.intro
  | fin s c q => exact fp_rr64 s c 1 q
theorem fp_n64 (x : UInt64) : vf_n64 x ↔ x.toNat % 9223372036854775808 ≤ 9218868437227405312 := by
  unfold vf_n64
  rw [UInt64.le_iff_toNat_le, UInt64.toNat_and]
  have h1 : (0x7fffffffffffffff : UInt64).toNat = 2 ^ 63 - 1 := by decide
  have h2 : (0x7ff0000000000000 : UInt64).toNat = 9218868437227405312 := by decide
  rw [h1, h2, Nat.and_two_pow_sub_one_eq_mod]
theorem fp_of64 {n : Nat} (h : n % 9223372036854775808 ≤ 9218868437227405312) : vf_n64 (UInt64.ofNat n) := by
  rw [fp_n64, UInt64.toNat_ofNat']
  omega
theorem fp_nn64 {x : UInt64} (h : vf_n64 x) : fp_g64 (FP.Core.decode FP.Core.b64 x.toNat) := fp_dec64 ((fp_n64 x).mp h)
theorem fp_div64 {a b : UInt64} (ha : vf_n64 a) (hb : b.toNat % 9223372036854775808 < 9218868437227405312) (hz : b.toNat % 9223372036854775808 ≠ 0) : vf_n64 (FP.ddiv a b) := by
  refine fp_of64 (fp_enc64 ?_)
  have h1 := fp_nn64 ha
  obtain ⟨t, d, r, e, hd⟩ := fp_fin64 hb hz
  rw [e]
  generalize FP.Core.decode FP.Core.b64 a.toNat = x at h1
  cases x with
  | nan => cases h1
  | inf s => exact True.intro
  | fin s c q =>
    show fp_g64 (if d = 0 then (if c = 0 then .nan else .inf (s != t)) else FP.Core.roundRatio FP.Core.b64 (s != t) c d (q - r))
    rw [if_neg hd]
    exact fp_rr64 _ _ _ _
theorem fp_sub64 {a b : UInt64} (ha : vf_n64 a) (hb : b.toNat % 9223372036854775808 < 9218868437227405312) (hz : b.toNat % 9223372036854775808 ≠ 0) : vf_n64 (FP.dsub a b) := by
  refine fp_of64 (fp_enc64 (fp_rd64 ?_))
  have h1 := fp_nn64 ha
  obtain ⟨t, d, r, e, hd⟩ := fp_fin64 hb hz
  rw [e]
  generalize FP.Core.decode FP.Core.b64 a.toNat = x at h1
  cases x with
  | nan => cases h1
  | inf s => intro h; cases h
  | fin s c q => intro h; cases h
theorem fp_mul64 {a b : UInt64} (ha : vf_n64 a) (hb : b.toNat % 9223372036854775808 < 9218868437227405312) (hz : b.toNat % 9223372036854775808 ≠ 0) : vf_n64 (FP.dmul a b) := by
  refine fp_of64 (fp_enc64 (fp_rd64 ?_))
  have h1 := fp_nn64 ha
  obtain ⟨t, d, r, e, hd⟩ := fp_fin64 hb hz
  rw [e]
  generalize FP.Core.decode FP.Core.b64 a.toNat = x at h1
  cases x with
  | nan => cases h1
  | inf s =>
    show (if d = 0 then FP.Core.Datum.nan else .inf (s != t)) ≠ .nan
    rw [if_neg hd]
    intro h; cases h
  | fin s c q => intro h; cases h
/-- a whole number other than 0 -/
theorem fp_whole64 (s : Bool) {num : Nat} (h1 : 1 ≤ num) (h2 : num < 18446744073709551616) : ∃ c q, FP.Core.roundRatio FP.Core.b64 s num 1 0 = .fin s c q ∧ c ≠ 0 ∧ c < 9007199254740992 ∧ q ≤ 971 := by
  have hn : num ≠ 0 := by omega
  have hle : 2 ^ num.log2 ≤ num := Nat.log2_self_le hn
  have hlt : num.log2 < 64 := (Nat.log2_lt hn).mpr h2
  have hlead : FP.Core.leading num 1 = (num.log2 : Int) := by
    unfold FP.Core.leading
    have e1 : Nat.log2 1 = 0 := by decide +kernel
    rw [e1]
    have e2 : ((num.log2 : Int) - ((0 : Nat) : Int)).toNat = num.log2 := by omega
    have e3 : (-((num.log2 : Int) - ((0 : Nat) : Int))).toNat = 0 := by omega
    dsimp only
    rw [e2, e3, Nat.pow_zero, Nat.mul_one, Nat.one_mul, if_pos hle]
    omega
  have hq : FP.Core.quantum FP.Core.b64 num 1 0 = max (-1074) ((num.log2 : Int) - 52) := by
    unfold FP.Core.quantum
    rw [hlead, fp_qn64, fp_pi64]
    congr 1
  unfold FP.Core.roundRatio
  rw [if_neg hn, hq]
  generalize hqg : max (-1074 : Int) ((num.log2 : Int) - 52) = q
  have hq1 : q ≤ 64 := by omega
  unfold FP.Core.roundAt FP.Core.settle FP.Core.bound
  rw [fp_p64, fp_t64, fp_qx64]
  have hU : 1 ≤ FP.Core.nearest (FP.Core.unitsNum num 0 q) (FP.Core.unitsDen 1 0 q) := by
    have hd : 1 ≤ FP.Core.unitsNum num 0 q / FP.Core.unitsDen 1 0 q := by
      unfold FP.Core.unitsNum FP.Core.unitsDen
      refine Nat.div_pos ?_ ?_
      · by_cases hq0 : q ≤ 0
        · have e : (q - 0).toNat = 0 := by omega
          rw [e, Nat.pow_zero]
          have := Nat.mul_le_mul h1 (Nat.one_le_two_pow (n := (0 - q).toNat))
          omega
        · have e : (0 - q).toNat = 0 := by omega
          rw [e, Nat.pow_zero, Nat.mul_one, Nat.one_mul]
          have : (q - 0).toNat ≤ num.log2 := by omega
          exact Nat.le_trans (Nat.pow_le_pow_right (by decide) this) hle
      · rw [Nat.one_mul]
        exact Nat.one_le_two_pow
    unfold FP.Core.nearest
    split
    · exact hd
    · split <;> omega
  generalize FP.Core.nearest (FP.Core.unitsNum num 0 q) (FP.Core.unitsDen 1 0 q) = c at hU
  by_cases hc : c < 9007199254740992
  · rw [if_pos hc, if_pos (by omega)]
    exact ⟨c, q, rfl, by omega, hc, by omega⟩
  · rw [if_neg hc, if_pos (by omega)]
    exact ⟨4503599627370496, q + 1, rfl, by decide, by decide, by omega⟩
theorem fp_of_int64 (a : Int64) : vf_n64 (FP.l2d a) ∧ (a ≠ 0 → (FP.l2d a).toNat % 9223372036854775808 < 9218868437227405312 ∧ (FP.l2d a).toNat % 9223372036854775808 ≠ 0) := by
  refine ⟨fp_of64 (fp_enc64 (fp_rd64 (fun h => by cases h))), fun ha => ?_⟩
  have hb := (⟨Int64.le_toInt a, Int64.toInt_lt a⟩ : -2 ^ 63 ≤ a.toInt ∧ a.toInt < 2 ^ 63)
  have hne : a.toInt ≠ 0 := fun h => ha (Int64.toInt.inj h)
  obtain ⟨c, q, e, c0, c1, c2⟩ := fp_whole64 (decide (a.toInt < 0)) (num := a.toInt.natAbs) (by omega) (by omega)
  have he : FP.l2d a = UInt64.ofNat (FP.Core.encode FP.Core.b64 (.fin (decide (a.toInt < 0)) c q)) := by
    rw [← e]
    rfl
  rw [he, UInt64.toNat_ofNat']
  generalize decide (a.toInt < 0) = s
  have hs : s.toNat ≤ 1 := Bool.toNat_le s
  have hm : FP.Core.encode FP.Core.b64 (.fin s c q) % 9223372036854775808 < 9218868437227405312 ∧ FP.Core.encode FP.Core.b64 (.fin s c q) % 9223372036854775808 ≠ 0 := by
    show (if c < FP.Core.b64.tails then FP.Core.assemble FP.Core.b64 s 0 c else FP.Core.assemble FP.Core.b64 s ((q - FP.Core.b64.qmin).toNat + 1) (c - FP.Core.b64.tails)) % 9223372036854775808 < 9218868437227405312 ∧ (if c < FP.Core.b64.tails then FP.Core.assemble FP.Core.b64 s 0 c else FP.Core.assemble FP.Core.b64 s ((q - FP.Core.b64.qmin).toNat + 1) (c - FP.Core.b64.tails)) % 9223372036854775808 ≠ 0
    unfold FP.Core.assemble
    rw [fp_x64, fp_t64, fp_qn64]
    split <;> omega
  omega
/-! ===== 32: no NaN comes of these ===== -/
theorem fp_t32 : FP.Core.b32.tails = 8388608 := by decide +kernel
theorem fp_x32 : FP.Core.b32.exps = 256 := by decide +kernel
theorem fp_qn32 : FP.Core.b32.qmin = -149 := by decide +kernel
theorem fp_qx32 : FP.Core.b32.qmax = 104 := by decide +kernel
theorem fp_p32 : 2 ^ FP.Core.b32.p = 16777216 := by decide +kernel
theorem fp_pi32 : ((FP.Core.b32.p : Nat) : Int) - 1 = 23 := by decide +kernel
def fp_g32 (d : FP.Core.Datum) : Prop := match d with
  | .nan => False
  | .inf _ => True
  | .fin _ c q => c < 16777216 ∧ q ≤ 104
theorem fp_enc32 {d : FP.Core.Datum} (h : fp_g32 d) : FP.Core.encode FP.Core.b32 d % 2147483648 ≤ 2139095040 := by
  cases d with
  | nan => cases h
  | inf s =>
    show FP.Core.assemble FP.Core.b32 s (FP.Core.b32.exps - 1) 0 % 2147483648 ≤ 2139095040
    unfold FP.Core.assemble
    rw [fp_x32, fp_t32]
    have : s.toNat ≤ 1 := Bool.toNat_le s
    omega
  | fin s c q =>
    obtain ⟨h1, h2⟩ := h
    show (if c < FP.Core.b32.tails then FP.Core.assemble FP.Core.b32 s 0 c else FP.Core.assemble FP.Core.b32 s ((q - FP.Core.b32.qmin).toNat + 1) (c - FP.Core.b32.tails)) % 2147483648 ≤ 2139095040
    unfold FP.Core.assemble
    rw [fp_x32, fp_t32, fp_qn32]
    have : s.toNat ≤ 1 := Bool.toNat_le s
    split <;> omega
theorem fp_dec32 {n : Nat} (h : n % 2147483648 ≤ 2139095040) : fp_g32 (FP.Core.decode FP.Core.b32 n) := by
  unfold FP.Core.decode FP.Core.fieldE FP.Core.fieldT FP.Core.fieldS
  rw [fp_x32, fp_t32, fp_qn32]
  by_cases h1 : n / 8388608 % 256 = 256 - 1
  · rw [if_pos h1]
    by_cases h2 : n % 8388608 = 0
    · rw [if_pos h2]; exact True.intro
    · exfalso; omega
  · rw [if_neg h1]
    by_cases h2 : n / 8388608 % 256 = 0
    · rw [if_pos h2]
      exact ⟨by omega, by omega⟩
    · rw [if_neg h2]
      exact ⟨by omega, by omega⟩
theorem fp_fin32 {n : Nat} (h : n % 2147483648 < 2139095040) (h0 : n % 2147483648 ≠ 0) : ∃ s d r, FP.Core.decode FP.Core.b32 n = .fin s d r ∧ d ≠ 0 := by
  unfold FP.Core.decode FP.Core.fieldE FP.Core.fieldT
  rw [fp_x32, fp_t32, fp_qn32]
  by_cases h1 : n / 8388608 % 256 = 256 - 1
  · exfalso; omega
  · rw [if_neg h1]
    by_cases h2 : n / 8388608 % 256 = 0
    · rw [if_pos h2]
      exact ⟨_, _, _, rfl, by omega⟩
    · rw [if_neg h2]
      exact ⟨_, _, _, rfl, by omega⟩
theorem fp_bd32 (s : Bool) {c : Nat} (hc : c < 16777216) (q : Int) : fp_g32 (FP.Core.bound FP.Core.b32 s c q) := by
  unfold FP.Core.bound
  rw [fp_qx32]
  by_cases h : q ≤ 104
  · rw [if_pos h]; exact ⟨hc, h⟩
  · rw [if_neg h]; exact True.intro
theorem fp_rr32 (s : Bool) (num den : Nat) (e : Int) : fp_g32 (FP.Core.roundRatio FP.Core.b32 s num den e) := by
  unfold FP.Core.roundRatio
  by_cases h : num = 0
  · rw [if_pos h]
    refine ⟨by decide, ?_⟩
    rw [fp_qn32]
    decide
  · rw [if_neg h]
    unfold FP.Core.roundAt FP.Core.settle
    rw [fp_p32, fp_t32]
    split
    · rename_i hc
      exact fp_bd32 s hc _
    · exact fp_bd32 s (by decide) _
theorem fp_rd32 {d : FP.Core.Datum} (h : d ≠ .nan) : fp_g32 (FP.Core.round FP.Core.b32 d) := by
  cases d with
  | nan => exact absurd rfl h
  | inf s => exact True.intro
  | fin s c q => exact fp_rr32 s c 1 q
theorem fp_n32 (x : UInt32) : vf_n32 x ↔ x.toNat % 2147483648 ≤ 2139095040 := by
  unfold vf_n32
  rw [UInt32.le_iff_toNat_le, UInt32.toNat_and]
  have h1 : (0x7fffffff : UInt32).toNat = 2 ^ 31 - 1 := by decide
  have h2 : (0x7f800000 : UInt32).toNat = 2139095040 := by decide
  rw [h1, h2, Nat.and_two_pow_sub_one_eq_mod]
theorem fp_of32 {n : Nat} (h : n % 2147483648 ≤ 2139095040) : vf_n32 (UInt32.ofNat n) := by
  rw [fp_n32, UInt32.toNat_ofNat']
  omega
theorem fp_nn32 {x : UInt32} (h : vf_n32 x) : fp_g32 (FP.Core.decode FP.Core.b32 x.toNat) := fp_dec32 ((fp_n32 x).mp h)
theorem fp_div32 {a b : UInt32} (ha : vf_n32 a) (hb : b.toNat % 2147483648 < 2139095040) (hz : b.toNat % 2147483648 ≠ 0) : vf_n32 (FP.fdiv a b) := by
  refine fp_of32 (fp_enc32 ?_)
  have h1 := fp_nn32 ha
  obtain ⟨t, d, r, e, hd⟩ := fp_fin32 hb hz
  rw [e]
  generalize FP.Core.decode FP.Core.b32 a.toNat = x at h1
  cases x with
  | nan => cases h1
  | inf s => exact True.intro
  | fin s c q =>
    show fp_g32 (if d = 0 then (if c = 0 then .nan else .inf (s != t)) else FP.Core.roundRatio FP.Core.b32 (s != t) c d (q - r))
    rw [if_neg hd]
    exact fp_rr32 _ _ _ _
theorem fp_sub32 {a b : UInt32} (ha : vf_n32 a) (hb : b.toNat % 2147483648 < 2139095040) (hz : b.toNat % 2147483648 ≠ 0) : vf_n32 (FP.fsub a b) := by
  refine fp_of32 (fp_enc32 (fp_rd32 ?_))
  have h1 := fp_nn32 ha
  obtain ⟨t, d, r, e, hd⟩ := fp_fin32 hb hz
  rw [e]
  generalize FP.Core.decode FP.Core.b32 a.toNat = x at h1
  cases x with
  | nan => cases h1
  | inf s => intro h; cases h
  | fin s c q => intro h; cases h
theorem fp_mul32 {a b : UInt32} (ha : vf_n32 a) (hb : b.toNat % 2147483648 < 2139095040) (hz : b.toNat % 2147483648 ≠ 0) : vf_n32 (FP.fmul a b) := by
  refine fp_of32 (fp_enc32 (fp_rd32 ?_))
  have h1 := fp_nn32 ha
  obtain ⟨t, d, r, e, hd⟩ := fp_fin32 hb hz
  rw [e]
  generalize FP.Core.decode FP.Core.b32 a.toNat = x at h1
  cases x with
  | nan => cases h1
  | inf s =>
    show (if d = 0 then FP.Core.Datum.nan else .inf (s != t)) ≠ .nan
    rw [if_neg hd]
    intro h; cases h
  | fin s c q => intro h; cases h
/-- a whole number other than 0 -/
theorem fp_whole32 (s : Bool) {num : Nat} (h1 : 1 ≤ num) (h2 : num < 4294967296) : ∃ c q, FP.Core.roundRatio FP.Core.b32 s num 1 0 = .fin s c q ∧ c ≠ 0 ∧ c < 16777216 ∧ q ≤ 104 := by
  have hn : num ≠ 0 := by omega
  have hle : 2 ^ num.log2 ≤ num := Nat.log2_self_le hn
  have hlt : num.log2 < 32 := (Nat.log2_lt hn).mpr h2
  have hlead : FP.Core.leading num 1 = (num.log2 : Int) := by
    unfold FP.Core.leading
    have e1 : Nat.log2 1 = 0 := by decide +kernel
    rw [e1]
    have e2 : ((num.log2 : Int) - ((0 : Nat) : Int)).toNat = num.log2 := by omega
    have e3 : (-((num.log2 : Int) - ((0 : Nat) : Int))).toNat = 0 := by omega
    dsimp only
    rw [e2, e3, Nat.pow_zero, Nat.mul_one, Nat.one_mul, if_pos hle]
    omega
  have hq : FP.Core.quantum FP.Core.b32 num 1 0 = max (-149) ((num.log2 : Int) - 23) := by
    unfold FP.Core.quantum
    rw [hlead, fp_qn32, fp_pi32]
    congr 1
  unfold FP.Core.roundRatio
  rw [if_neg hn, hq]
  generalize hqg : max (-149 : Int) ((num.log2 : Int) - 23) = q
  have hq1 : q ≤ 32 := by omega
  unfold FP.Core.roundAt FP.Core.settle FP.Core.bound
  rw [fp_p32, fp_t32, fp_qx32]
  have hU : 1 ≤ FP.Core.nearest (FP.Core.unitsNum num 0 q) (FP.Core.unitsDen 1 0 q) := by
    have hd : 1 ≤ FP.Core.unitsNum num 0 q / FP.Core.unitsDen 1 0 q := by
      unfold FP.Core.unitsNum FP.Core.unitsDen
      refine Nat.div_pos ?_ ?_
      · by_cases hq0 : q ≤ 0
        · have e : (q - 0).toNat = 0 := by omega
          rw [e, Nat.pow_zero]
          have := Nat.mul_le_mul h1 (Nat.one_le_two_pow (n := (0 - q).toNat))
          omega
        · have e : (0 - q).toNat = 0 := by omega
          rw [e, Nat.pow_zero, Nat.mul_one, Nat.one_mul]
          have : (q - 0).toNat ≤ num.log2 := by omega
          exact Nat.le_trans (Nat.pow_le_pow_right (by decide) this) hle
      · rw [Nat.one_mul]
        exact Nat.one_le_two_pow
    unfold FP.Core.nearest
    split
    · exact hd
    · split <;> omega
  generalize FP.Core.nearest (FP.Core.unitsNum num 0 q) (FP.Core.unitsDen 1 0 q) = c at hU
  by_cases hc : c < 16777216
  · rw [if_pos hc, if_pos (by omega)]
    exact ⟨c, q, rfl, by omega, hc, by omega⟩
  · rw [if_neg hc, if_pos (by omega)]
    exact ⟨8388608, q + 1, rfl, by decide, by decide, by omega⟩
theorem fp_of_int32 (a : Int32) : vf_n32 (FP.i2f a) ∧ (a ≠ 0 → (FP.i2f a).toNat % 2147483648 < 2139095040 ∧ (FP.i2f a).toNat % 2147483648 ≠ 0) := by
  refine ⟨fp_of32 (fp_enc32 (fp_rd32 (fun h => by cases h))), fun ha => ?_⟩
  have hb := at_i32 a
  have hne : a.toInt ≠ 0 := fun h => ha (Int32.toInt.inj h)
  obtain ⟨c, q, e, c0, c1, c2⟩ := fp_whole32 (decide (a.toInt < 0)) (num := a.toInt.natAbs) (by omega) (by omega)
  have he : FP.i2f a = UInt32.ofNat (FP.Core.encode FP.Core.b32 (.fin (decide (a.toInt < 0)) c q)) := by
    rw [← e]
    rfl
  rw [he, UInt32.toNat_ofNat']
  generalize decide (a.toInt < 0) = s
  have hs : s.toNat ≤ 1 := Bool.toNat_le s
  have hm : FP.Core.encode FP.Core.b32 (.fin s c q) % 2147483648 < 2139095040 ∧ FP.Core.encode FP.Core.b32 (.fin s c q) % 2147483648 ≠ 0 := by
    show (if c < FP.Core.b32.tails then FP.Core.assemble FP.Core.b32 s 0 c else FP.Core.assemble FP.Core.b32 s ((q - FP.Core.b32.qmin).toNat + 1) (c - FP.Core.b32.tails)) % 2147483648 < 2139095040 ∧ (if c < FP.Core.b32.tails then FP.Core.assemble FP.Core.b32 s 0 c else FP.Core.assemble FP.Core.b32 s ((q - FP.Core.b32.qmin).toNat + 1) (c - FP.Core.b32.tails)) % 2147483648 ≠ 0
    unfold FP.Core.assemble
    rw [fp_x32, fp_t32, fp_qn32]
    split <;> omega
  omega

end

/-! 89.03.fp1.lean.txt -/
section
/-! ===== floats and doubles: never a NaN ===== -/
section FTF
variable {P : am_Pg} {mi pc pc' : Nat} {ins : Instr} {lv lv' : fl_L} {st st' r : List fl_V} {m : fl_M} {Q : Option fl_V → fl_M → Prop}
theorem fl_Tq.gen (hc : am_code P mi pc = some ins) (hcl : am_cl P mi ins = none) (hrt : am_rt P mi ins (st.map fl_c) = none) (hst : ∀ la : am_L, fl_LR lv la → ∃ la', am_st P mi ins pc la (st.map fl_c) (fl_H m) = some (pc', la', st'.map fl_c, fl_H m) ∧ fl_LR lv' la') (k : fl_Tq P mi pc' lv' st' m Q) : fl_Tq P mi pc lv st m Q := by
  intro la hl
  obtain ⟨la', h1, h2⟩ := hst la hl
  exact am_To.stp hc hcl hrt h1 (k la' h2)
theorem fl_Tq.dld {i w : Nat} (hc : am_code P mi pc = some ins) (hcl : am_cl P mi ins = none) (hrt : am_rt P mi ins (st.map fl_c) = none) {n : Nat} (hst : ∀ (la : am_L) (s : List Value) (M : am_M), am_st P mi ins pc la s M = am_pu n pc la s M (am_ld w (am_lk la i))) {v : fl_V} (hv : fl_ld w lv[i]? = some v) (k : fl_Tq P mi (pc + n) lv (v :: st) m Q) : fl_Tq P mi pc lv st m Q := by
  refine fl_Tq.gen hc hcl hrt (fun la hl => ⟨la, ?_, hl⟩) k
  rw [hst, fl_ld_c hl hv]
  rfl
theorem fl_Tq.dso {i w n : Nat} {v : fl_V} (hc : am_code P mi pc = some ins) (hcl : am_cl P mi ins = none) (hrt : am_rt P mi ins ((v :: r).map fl_c) = none) (hst : ∀ (la : am_L) (s : List Value) (M : am_M), am_st P mi ins pc la s M = am_so w n pc i (am_mxl P mi) la s M) (hv : fl_so w n pc i (am_mxl P mi) lv (v :: r) m = some (pc', lv', r, m)) (k : fl_Tq P mi pc' lv' r m Q) : fl_Tq P mi pc lv (v :: r) m Q := by
  refine fl_Tq.gen hc hcl hrt (fun la hl => ?_) k
  obtain ⟨la', h1, h2⟩ := fl_so_c hl hv
  exact ⟨la', by rw [hst]; exact h1, h2⟩
theorem fl_Tq.psh {v : fl_V} {n : Nat} (hc : am_code P mi pc = some ins) (hcl : am_cl P mi ins = none) (hrt : am_rt P mi ins (st.map fl_c) = none) (hst : ∀ (la : am_L) (s : List Value) (M : am_M), am_st P mi ins pc la s M = some (pc + n, la, fl_c v :: s, M)) (k : fl_Tq P mi (pc + n) lv (v :: st) m Q) : fl_Tq P mi pc lv st m Q :=
  fl_Tq.gen (st' := v :: st) hc hcl hrt (fun la hl => ⟨la, hst la (st.map fl_c) (fl_H m), hl⟩) k
theorem fl_Tq.un {v w : fl_V} (hc : am_code P mi pc = some ins) (hcl : am_cl P mi ins = none) (hrt : am_rt P mi ins ((v :: r).map fl_c) = none) (hst : ∀ (la : am_L) (s : List Value) (M : am_M), am_st P mi ins pc la (fl_c v :: s) M = some (pc + 1, la, fl_c w :: s, M)) (k : fl_Tq P mi (pc + 1) lv (w :: r) m Q) : fl_Tq P mi pc lv (v :: r) m Q :=
  fl_Tq.gen (st' := w :: r) hc hcl hrt (fun la hl => ⟨la, hst la (r.map fl_c) (fl_H m), hl⟩) k
theorem fl_Tq.bi {v w u : fl_V} (hc : am_code P mi pc = some ins) (hcl : am_cl P mi ins = none) (hrt : am_rt P mi ins ((v :: w :: r).map fl_c) = none) (hst : ∀ (la : am_L) (s : List Value) (M : am_M), am_st P mi ins pc la (fl_c v :: fl_c w :: s) M = some (pc + 1, la, fl_c u :: s, M)) (k : fl_Tq P mi (pc + 1) lv (u :: r) m Q) : fl_Tq P mi pc lv (v :: w :: r) m Q :=
  fl_Tq.gen (st' := u :: r) hc hcl hrt (fun la hl => ⟨la, hst la (r.map fl_c) (fl_H m), hl⟩) k
theorem fl_fD {g : UInt64 → UInt64 → UInt64} {a b : UInt64} (h : vf_n64 (g a b)) : am_fD g (.double a) (.double b) = some (.double (g a b)) := if_pos h
theorem fl_fF {g : UInt32 → UInt32 → UInt32} {a b : UInt32} (h : vf_n32 (g a b)) : am_fF g (.float a) (.float b) = some (.float (g a b)) := if_pos h
theorem fl_dbin {g : UInt64 → UInt64 → UInt64} {a b : UInt64} (hst : ∀ (la : am_L) (s : List Value) (M : am_M), am_st P mi ins pc la s M = am_2 pc la s M (am_fD g)) (h : vf_n64 (g a b)) (la : am_L) (s : List Value) (M : am_M) : am_st P mi ins pc la (.double b :: .double a :: s) M = some (pc + 1, la, .double (g a b) :: s, M) := by
  rw [hst]
  unfold am_2
  dsimp only
  rw [fl_fD h]
theorem fl_fbin {g : UInt32 → UInt32 → UInt32} {a b : UInt32} (hst : ∀ (la : am_L) (s : List Value) (M : am_M), am_st P mi ins pc la s M = am_2 pc la s M (am_fF g)) (h : vf_n32 (g a b)) (la : am_L) (s : List Value) (M : am_M) : am_st P mi ins pc la (.float b :: .float a :: s) M = some (pc + 1, la, .float (g a b) :: s, M) := by
  rw [hst]
  unfold am_2
  dsimp only
  rw [fl_fF h]
end FTF
abbrev fl_d (x : UInt64) : fl_V := .inr (.inr (.inr (.inr (.inr x))))
abbrev fl_f (x : UInt32) : fl_V := .inr (.inr (.inr (.inr (.inl x))))
abbrev fl_j (x : Int64) : fl_V := .inr (.inl x)
section ATFP
variable {L : Nat} {xs : Nat → Int32} {m : fl_M} {Q : Option fl_V → fl_M → Prop}
theorem at_326 {b : UInt64} (k : ∀ v : Int32, v = 0 ∨ v = 1 → Q (some (.inl v)) m) : fl_Tq (pw_P L xs) 326 0 (fl_args (am_mxl (pw_P L xs) 326) [fl_d b]) [] m Q := by
  refine fl_Tq.dld (i := 0) (w := 3) (n := 1) (v := fl_d b) rfl rfl rfl (fun _ _ _ => rfl) rfl ?_
  refine fl_Tq.dld (i := 0) (w := 3) (n := 1) (v := fl_d b) rfl rfl rfl (fun _ _ _ => rfl) rfl ?_
  refine fl_Tq.bi (u := .inl (Op.cmpValue (FP.dcmp b b) .l)) rfl rfl rfl (fun _ _ _ => rfl) ?_
  cases hb : am_c1 .eq (Op.cmpValue (FP.dcmp b b) .l) with
  | true =>
    refine fl_Tq.zt rfl (fl_bo rfl) hb rfl ?_
    refine fl_Tq.stp rfl rfl (fl_bo rfl) rfl ?_
    exact fl_Tq.ret rfl rfl rfl (k _ (Or.inl rfl))
  | false =>
    refine fl_Tq.zf rfl (fl_bo rfl) hb rfl ?_
    refine fl_Tq.stp rfl rfl (fl_bo rfl) rfl ?_
    refine fl_Tq.stp rfl rfl (fl_bo rfl) rfl ?_
    exact fl_Tq.ret rfl rfl rfl (k _ (Or.inr rfl))
theorem at_327 {b : UInt64} (k : ∀ v : Int64, Q (some (fl_j v)) m) : fl_Tq (pw_P L xs) 327 0 (fl_args (am_mxl (pw_P L xs) 327) [fl_d b]) [] m Q := by
  refine fl_Tq.dld (i := 0) (w := 3) (n := 1) (v := fl_d b) rfl rfl rfl (fun _ _ _ => rfl) rfl ?_
  refine fl_Tq.cal rfl rfl (fl_bo rfl) rfl ?_
  refine at_326 (fun v hv => ?_)
  cases hb : am_c1 .ne v with
  | true =>
    refine fl_Tq.zt rfl (fl_bo rfl) hb rfl ?_
    refine fl_Tq.stp rfl rfl (fl_bo rfl) rfl ?_
    exact fl_Tq.ret rfl rfl rfl (k _)
  | false =>
    refine fl_Tq.zf rfl (fl_bo rfl) hb rfl ?_
    refine fl_Tq.dld (i := 0) (w := 3) (n := 1) (v := fl_d b) rfl rfl rfl (fun _ _ _ => rfl) rfl ?_
    refine fl_Tq.gen (st' := [fl_j b.toInt64]) rfl rfl rfl (fun la hl => ⟨la, rfl, hl⟩) ?_
    exact fl_Tq.ret rfl rfl rfl (k _)
theorem at_328 {b : UInt32} (k : ∀ v : Int32, v = 0 ∨ v = 1 → Q (some (.inl v)) m) : fl_Tq (pw_P L xs) 328 0 (fl_args (am_mxl (pw_P L xs) 328) [fl_f b]) [] m Q := by
  refine fl_Tq.dld (i := 0) (w := 2) (n := 1) (v := fl_f b) rfl rfl rfl (fun _ _ _ => rfl) rfl ?_
  refine fl_Tq.dld (i := 0) (w := 2) (n := 1) (v := fl_f b) rfl rfl rfl (fun _ _ _ => rfl) rfl ?_
  refine fl_Tq.bi (u := .inl (Op.cmpValue (FP.fcmp b b) .l)) rfl rfl rfl (fun _ _ _ => rfl) ?_
  cases hb : am_c1 .eq (Op.cmpValue (FP.fcmp b b) .l) with
  | true =>
    refine fl_Tq.zt rfl (fl_bo rfl) hb rfl ?_
    refine fl_Tq.stp rfl rfl (fl_bo rfl) rfl ?_
    exact fl_Tq.ret rfl rfl rfl (k _ (Or.inl rfl))
  | false =>
    refine fl_Tq.zf rfl (fl_bo rfl) hb rfl ?_
    refine fl_Tq.stp rfl rfl (fl_bo rfl) rfl ?_
    refine fl_Tq.stp rfl rfl (fl_bo rfl) rfl ?_
    exact fl_Tq.ret rfl rfl rfl (k _ (Or.inr rfl))
theorem at_329 {b : UInt32} (k : ∀ v : Int32, Q (some (.inl v)) m) : fl_Tq (pw_P L xs) 329 0 (fl_args (am_mxl (pw_P L xs) 329) [fl_f b]) [] m Q := by
  refine fl_Tq.dld (i := 0) (w := 2) (n := 1) (v := fl_f b) rfl rfl rfl (fun _ _ _ => rfl) rfl ?_
  refine fl_Tq.cal rfl rfl (fl_bo rfl) rfl ?_
  refine at_328 (fun v hv => ?_)
  cases hb : am_c1 .ne v with
  | true =>
    refine fl_Tq.zt rfl (fl_bo rfl) hb rfl ?_
    refine fl_Tq.stp rfl rfl (fl_bo rfl) rfl ?_
    exact fl_Tq.ret rfl rfl rfl (k _)
  | false =>
    refine fl_Tq.zf rfl (fl_bo rfl) hb rfl ?_
    refine fl_Tq.dld (i := 0) (w := 2) (n := 1) (v := fl_f b) rfl rfl rfl (fun _ _ _ => rfl) rfl ?_
    refine fl_Tq.gen (st' := [.inl b.toInt32]) rfl rfl rfl (fun la hl => ⟨la, rfl, hl⟩) ?_
    exact fl_Tq.ret rfl rfl rfl (k _)
/-- the class's own bits of a double -/
theorem at_181 {b : UInt64} (hb0 : vf_n64 b) (k : ∀ v : Int64, Q (some (fl_j v)) m) : fl_Tq (pw_P L xs) 181 0 (fl_args (am_mxl (pw_P L xs) 181) [fl_d b]) [] m Q := by
  have tail : ∀ (x : UInt64) (e i : Int32), vf_n64 x → fl_Tq (pw_P L xs) 181 43 [some (fl_d b), none, some (.inl e), some (fl_d x), none, some (.inl i), none] [] m Q := by
    intro x e i hx
    refine fl_Tq.dld (i := 3) (w := 3) (n := 1) (v := fl_d x) rfl rfl rfl (fun _ _ _ => rfl) rfl ?_
    refine fl_Tq.psh (n := 1) (v := fl_d 0x3ff0000000000000) rfl rfl rfl (fun _ _ _ => rfl) ?_
    have n1 : vf_n64 (FP.dsub x 0x3ff0000000000000) := fp_sub64 hx (by decide) (by decide)
    refine fl_Tq.bi (u := fl_d (FP.dsub x 0x3ff0000000000000)) rfl rfl rfl (fl_dbin (fun _ _ _ => rfl) n1) ?_
    refine fl_Tq.psh (n := 3) (v := fl_d 0x4330000000000000) rfl rfl rfl (fun _ _ _ => rfl) ?_
    have n2 : vf_n64 (FP.dmul (FP.dsub x 0x3ff0000000000000) 0x4330000000000000) := fp_mul64 n1 (by decide) (by decide)
    refine fl_Tq.bi (u := fl_d (FP.dmul (FP.dsub x 0x3ff0000000000000) 0x4330000000000000)) rfl rfl rfl (fl_dbin (fun _ _ _ => rfl) n2) ?_
    refine fl_Tq.un (w := fl_j (FP.d2l (FP.dmul (FP.dsub x 0x3ff0000000000000) 0x4330000000000000))) rfl rfl rfl (fun _ _ _ => rfl) ?_
    refine fl_Tq.stp rfl rfl (fl_bo rfl) rfl ?_
    refine fl_Tq.stp rfl rfl (fl_bo rfl) rfl ?_
    refine fl_Tq.stp rfl rfl (fl_bo rfl) rfl ?_
    refine fl_Tq.stp rfl rfl (fl_bo rfl) rfl ?_
    refine fl_Tq.stp rfl rfl (fl_bo rfl) rfl ?_
    refine fl_Tq.stp rfl rfl (fl_bo rfl) rfl ?_
    refine fl_Tq.stp rfl rfl (fl_bo rfl) rfl ?_
    refine fl_Tq.stp rfl rfl (fl_bo rfl) rfl ?_
    refine fl_Tq.stp rfl rfl (fl_bo rfl) rfl ?_
    exact fl_Tq.ret rfl rfl rfl (k _)
  refine fl_Tq.dld (i := 0) (w := 3) (n := 1) (v := fl_d b) rfl rfl rfl (fun _ _ _ => rfl) rfl ?_
  refine fl_Tq.psh (n := 1) (v := fl_d 0) rfl rfl rfl (fun _ _ _ => rfl) ?_
  refine fl_Tq.bi (u := .inl (Op.cmpValue (FP.dcmp b 0) .g)) rfl rfl rfl (fun _ _ _ => rfl) ?_
  cases hb : am_c1 .gt (Op.cmpValue (FP.dcmp b 0) .g) with
  | false =>
    refine fl_Tq.zf rfl (fl_bo rfl) hb rfl ?_
    refine fl_Tq.stp rfl rfl (fl_bo rfl) rfl ?_
    exact fl_Tq.ret rfl rfl rfl (k _)
  | true =>
    refine fl_Tq.zt rfl (fl_bo rfl) hb rfl ?_
    refine fl_Tq.stp rfl rfl (fl_bo rfl) rfl ?_
    refine fl_Tq.stp rfl rfl (fl_bo rfl) rfl ?_
    refine fl_Tq.dld (i := 0) (w := 3) (n := 1) (v := fl_d b) rfl rfl rfl (fun _ _ _ => rfl) rfl ?_
    refine fl_Tq.dso (i := 3) (w := 3) (n := 1) rfl rfl rfl (fun _ _ _ => rfl) rfl ?_
    refine fl_Tq.stp rfl rfl (fl_bo rfl) rfl ?_
    refine fl_Tq.stp rfl rfl (fl_bo rfl) rfl ?_
    have loop : ∀ (d n : Nat) (x : UInt64) (e : Int32), n + d = 64 → vf_n64 x → fl_Tq (pw_P L xs) 181 15 [some (fl_d b), none, some (.inl e), some (fl_d x), none, some (.inl (Int32.ofNat n)), none] [] m Q := by
      intro d
      induction d with
      | zero =>
        intro n x e hn hx
        have hn : n = 64 := by omega
        subst hn
        refine fl_Tq.stp rfl rfl (fl_bo rfl) rfl ?_
        refine fl_Tq.stp rfl rfl (fl_bo rfl) rfl ?_
        refine fl_Tq.jt rfl (fl_bo rfl) (by decide +kernel) rfl ?_
        exact tail x e _ hx
      | succ d ih =>
        intro n x e hn hx
        have en := at_ofN (k := n) (by omega)
        refine fl_Tq.stp rfl rfl (fl_bo rfl) rfl ?_
        refine fl_Tq.stp rfl rfl (fl_bo rfl) rfl ?_
        refine fl_Tq.jf rfl (fl_bo rfl) ?_ rfl ?_
        · rw [at_c2, en]
          exact decide_eq_false (by show ¬ (0 ≤ (n : Int) - (64 : Int)); omega)
        refine fl_Tq.dld (i := 3) (w := 3) (n := 1) (v := fl_d x) rfl rfl rfl (fun _ _ _ => rfl) rfl ?_
        refine fl_Tq.psh (n := 1) (v := fl_d 0x3ff0000000000000) rfl rfl rfl (fun _ _ _ => rfl) ?_
        refine fl_Tq.bi (u := .inl (Op.cmpValue (FP.dcmp x 0x3ff0000000000000) .g)) rfl rfl rfl (fun _ _ _ => rfl) ?_
        cases hc : am_c1 .ge (Op.cmpValue (FP.dcmp x 0x3ff0000000000000) .g) with
        | true =>
          refine fl_Tq.zt rfl (fl_bo rfl) hc rfl ?_
          exact tail x e _ hx
        | false =>
          refine fl_Tq.zf rfl (fl_bo rfl) hc rfl ?_
          refine fl_Tq.dld (i := 3) (w := 3) (n := 1) (v := fl_d x) rfl rfl rfl (fun _ _ _ => rfl) rfl ?_
          refine fl_Tq.psh (n := 3) (v := fl_d 0x4000000000000000) rfl rfl rfl (fun _ _ _ => rfl) ?_
          have n2 : vf_n64 (FP.dmul x 0x4000000000000000) := fp_mul64 hx (by decide) (by decide)
          refine fl_Tq.bi (u := fl_d (FP.dmul x 0x4000000000000000)) rfl rfl rfl (fl_dbin (fun _ _ _ => rfl) n2) ?_
          refine fl_Tq.dso (i := 3) (w := 3) (n := 1) rfl rfl rfl (fun _ _ _ => rfl) rfl ?_
          refine fl_Tq.stp rfl rfl (fl_bo rfl) rfl ?_
          refine fl_Tq.stp rfl rfl (fl_bo rfl) rfl ?_
          refine fl_Tq.stp rfl rfl (fl_bo rfl) rfl ?_
          have := ih (n + 1) (FP.dmul x 0x4000000000000000) (e + Int32.ofInt (-1)) (by omega) n2
          rw [← at_inc (by omega)] at this
          exact this
    exact loop 64 0 b (Int32.ofInt 0) (by omega) hb0
end ATFP

end

/-! 89.03.fp2.lean.txt -/
section
/-! ===== the bits of a float; fullness, off ===== -/
section ATF2
variable {L : Nat} {xs : Nat → Int32} {m : fl_M} {Q : Option fl_V → fl_M → Prop}
theorem at_182 {b : UInt32} (hb0 : vf_n32 b) (k : ∀ v : Int32, Q (some (.inl v)) m) : fl_Tq (pw_P L xs) 182 0 (fl_args (am_mxl (pw_P L xs) 182) [fl_f b]) [] m Q := by
  have tail : ∀ (x : UInt32) (e i : Int32), vf_n32 x → fl_Tq (pw_P L xs) 182 66 [some (fl_f b), some (.inl e), some (fl_f x), some (.inl i)] [] m Q := by
    intro x e i hx
    refine fl_Tq.dld (i := 2) (w := 2) (n := 1) (v := fl_f x) rfl rfl rfl (fun _ _ _ => rfl) rfl ?_
    refine fl_Tq.psh (n := 1) (v := fl_f 0x3f800000) rfl rfl rfl (fun _ _ _ => rfl) ?_
    have n1 : vf_n32 (FP.fsub x 0x3f800000) := fp_sub32 hx (by decide) (by decide)
    refine fl_Tq.bi (u := fl_f (FP.fsub x 0x3f800000)) rfl rfl rfl (fl_fbin (fun _ _ _ => rfl) n1) ?_
    refine fl_Tq.psh (n := 3) (v := fl_f 0x4b000000) rfl rfl rfl (fun _ _ _ => rfl) ?_
    have n2 : vf_n32 (FP.fmul (FP.fsub x 0x3f800000) 0x4b000000) := fp_mul32 n1 (by decide) (by decide)
    refine fl_Tq.bi (u := fl_f (FP.fmul (FP.fsub x 0x3f800000) 0x4b000000)) rfl rfl rfl (fl_fbin (fun _ _ _ => rfl) n2) ?_
    refine fl_Tq.un (w := .inl (FP.f2i (FP.fmul (FP.fsub x 0x3f800000) 0x4b000000))) rfl rfl rfl (fun _ _ _ => rfl) ?_
    refine fl_Tq.stp rfl rfl (fl_bo rfl) rfl ?_
    refine fl_Tq.stp rfl rfl (fl_bo rfl) rfl ?_
    refine fl_Tq.stp rfl rfl (fl_bo rfl) rfl ?_
    refine fl_Tq.stp rfl rfl (fl_bo rfl) rfl ?_
    refine fl_Tq.stp rfl rfl (fl_bo rfl) rfl ?_
    refine fl_Tq.stp rfl rfl (fl_bo rfl) rfl ?_
    refine fl_Tq.stp rfl rfl (fl_bo rfl) rfl ?_
    refine fl_Tq.stp rfl rfl (fl_bo rfl) rfl ?_
    exact fl_Tq.ret rfl rfl rfl (k _)
  have down : ∀ (d n : Nat) (x : UInt32) (e : Int32), n + d = 32 → vf_n32 x → fl_Tq (pw_P L xs) 182 41 [some (fl_f b), some (.inl e), some (fl_f x), some (.inl (Int32.ofNat n))] [] m Q := by
    intro d
    induction d with
    | zero =>
      intro n x e hn hx
      have hn : n = 32 := by omega
      subst hn
      refine fl_Tq.stp rfl rfl (fl_bo rfl) rfl ?_
      refine fl_Tq.stp rfl rfl (fl_bo rfl) rfl ?_
      refine fl_Tq.jt rfl (fl_bo rfl) (by decide +kernel) rfl ?_
      exact tail x e _ hx
    | succ d ih =>
      intro n x e hn hx
      have en := at_ofN (k := n) (by omega)
      refine fl_Tq.stp rfl rfl (fl_bo rfl) rfl ?_
      refine fl_Tq.stp rfl rfl (fl_bo rfl) rfl ?_
      refine fl_Tq.jf rfl (fl_bo rfl) ?_ rfl ?_
      · rw [at_c2, en]
        exact decide_eq_false (by show ¬ (0 ≤ (n : Int) - (32 : Int)); omega)
      refine fl_Tq.dld (i := 2) (w := 2) (n := 1) (v := fl_f x) rfl rfl rfl (fun _ _ _ => rfl) rfl ?_
      refine fl_Tq.psh (n := 1) (v := fl_f 0x40000000) rfl rfl rfl (fun _ _ _ => rfl) ?_
      refine fl_Tq.bi (u := .inl (Op.cmpValue (FP.fcmp x 0x40000000) .l)) rfl rfl rfl (fun _ _ _ => rfl) ?_
      cases hc : am_c1 .lt (Op.cmpValue (FP.fcmp x 0x40000000) .l) with
      | true =>
        refine fl_Tq.zt rfl (fl_bo rfl) hc rfl ?_
        exact tail x e _ hx
      | false =>
        refine fl_Tq.zf rfl (fl_bo rfl) hc rfl ?_
        refine fl_Tq.dld (i := 2) (w := 2) (n := 1) (v := fl_f x) rfl rfl rfl (fun _ _ _ => rfl) rfl ?_
        refine fl_Tq.psh (n := 1) (v := fl_f 0x40000000) rfl rfl rfl (fun _ _ _ => rfl) ?_
        have n2 : vf_n32 (FP.fdiv x 0x40000000) := fp_div32 hx (by decide) (by decide)
        refine fl_Tq.bi (u := fl_f (FP.fdiv x 0x40000000)) rfl rfl rfl (fl_fbin (fun _ _ _ => rfl) n2) ?_
        refine fl_Tq.dso (i := 2) (w := 2) (n := 1) rfl rfl rfl (fun _ _ _ => rfl) rfl ?_
        refine fl_Tq.stp rfl rfl (fl_bo rfl) rfl ?_
        refine fl_Tq.stp rfl rfl (fl_bo rfl) rfl ?_
        refine fl_Tq.stp rfl rfl (fl_bo rfl) rfl ?_
        have := ih (n + 1) (FP.fdiv x 0x40000000) (e + Int32.ofInt 1) (by omega) n2
        rw [← at_inc (by omega)] at this
        exact this
  refine fl_Tq.dld (i := 0) (w := 2) (n := 1) (v := fl_f b) rfl rfl rfl (fun _ _ _ => rfl) rfl ?_
  refine fl_Tq.psh (n := 1) (v := fl_f 0) rfl rfl rfl (fun _ _ _ => rfl) ?_
  refine fl_Tq.bi (u := .inl (Op.cmpValue (FP.fcmp b 0) .g)) rfl rfl rfl (fun _ _ _ => rfl) ?_
  cases hb : am_c1 .gt (Op.cmpValue (FP.fcmp b 0) .g) with
  | false =>
    refine fl_Tq.zf rfl (fl_bo rfl) hb rfl ?_
    refine fl_Tq.stp rfl rfl (fl_bo rfl) rfl ?_
    exact fl_Tq.ret rfl rfl rfl (k _)
  | true =>
    refine fl_Tq.zt rfl (fl_bo rfl) hb rfl ?_
    refine fl_Tq.stp rfl rfl (fl_bo rfl) rfl ?_
    refine fl_Tq.stp rfl rfl (fl_bo rfl) rfl ?_
    refine fl_Tq.dld (i := 0) (w := 2) (n := 1) (v := fl_f b) rfl rfl rfl (fun _ _ _ => rfl) rfl ?_
    refine fl_Tq.dso (i := 2) (w := 2) (n := 1) rfl rfl rfl (fun _ _ _ => rfl) rfl ?_
    refine fl_Tq.stp rfl rfl (fl_bo rfl) rfl ?_
    refine fl_Tq.stp rfl rfl (fl_bo rfl) rfl ?_
    have loop : ∀ (d n : Nat) (x : UInt32) (e : Int32), n + d = 32 → vf_n32 x → fl_Tq (pw_P L xs) 182 14 [some (fl_f b), some (.inl e), some (fl_f x), some (.inl (Int32.ofNat n))] [] m Q := by
      intro d
      induction d with
      | zero =>
        intro n x e hn hx
        have hn : n = 32 := by omega
        subst hn
        refine fl_Tq.stp rfl rfl (fl_bo rfl) rfl ?_
        refine fl_Tq.stp rfl rfl (fl_bo rfl) rfl ?_
        refine fl_Tq.jt rfl (fl_bo rfl) (by decide +kernel) rfl ?_
        refine fl_Tq.stp rfl rfl (fl_bo rfl) rfl ?_
        refine fl_Tq.stp rfl rfl (fl_bo rfl) rfl ?_
        exact down 32 0 x e (by omega) hx
      | succ d ih =>
        intro n x e hn hx
        have en := at_ofN (k := n) (by omega)
        refine fl_Tq.stp rfl rfl (fl_bo rfl) rfl ?_
        refine fl_Tq.stp rfl rfl (fl_bo rfl) rfl ?_
        refine fl_Tq.jf rfl (fl_bo rfl) ?_ rfl ?_
        · rw [at_c2, en]
          exact decide_eq_false (by show ¬ (0 ≤ (n : Int) - (32 : Int)); omega)
        refine fl_Tq.dld (i := 2) (w := 2) (n := 1) (v := fl_f x) rfl rfl rfl (fun _ _ _ => rfl) rfl ?_
        refine fl_Tq.psh (n := 1) (v := fl_f 0x3f800000) rfl rfl rfl (fun _ _ _ => rfl) ?_
        refine fl_Tq.bi (u := .inl (Op.cmpValue (FP.fcmp x 0x3f800000) .g)) rfl rfl rfl (fun _ _ _ => rfl) ?_
        cases hc : am_c1 .ge (Op.cmpValue (FP.fcmp x 0x3f800000) .g) with
        | true =>
          refine fl_Tq.zt rfl (fl_bo rfl) hc rfl ?_
          refine fl_Tq.stp rfl rfl (fl_bo rfl) rfl ?_
          refine fl_Tq.stp rfl rfl (fl_bo rfl) rfl ?_
          exact down 32 0 x e (by omega) hx
        | false =>
          refine fl_Tq.zf rfl (fl_bo rfl) hc rfl ?_
          refine fl_Tq.dld (i := 2) (w := 2) (n := 1) (v := fl_f x) rfl rfl rfl (fun _ _ _ => rfl) rfl ?_
          refine fl_Tq.psh (n := 1) (v := fl_f 0x40000000) rfl rfl rfl (fun _ _ _ => rfl) ?_
          have n2 : vf_n32 (FP.fmul x 0x40000000) := fp_mul32 hx (by decide) (by decide)
          refine fl_Tq.bi (u := fl_f (FP.fmul x 0x40000000)) rfl rfl rfl (fl_fbin (fun _ _ _ => rfl) n2) ?_
          refine fl_Tq.dso (i := 2) (w := 2) (n := 1) rfl rfl rfl (fun _ _ _ => rfl) rfl ?_
          refine fl_Tq.stp rfl rfl (fl_bo rfl) rfl ?_
          refine fl_Tq.stp rfl rfl (fl_bo rfl) rfl ?_
          refine fl_Tq.stp rfl rfl (fl_bo rfl) rfl ?_
          have := ih (n + 1) (FP.fmul x 0x40000000) (e + Int32.ofInt (-1)) (by omega) n2
          rw [← at_inc (by omega)] at this
          exact this
    exact loop 32 0 b (Int32.ofInt 0) (by omega) hb0
end ATF2

end

/-! 89.04.full.lean.txt -/
section
/-! ===== fullness, off: by hand, the sums by the looker ===== -/
theorem at_vok {L : Nat} {xs : Nat → Int32} {c : at_C} (e : at_chk [] at_JT 4000 c = true) : at_Valid at_XI (pw_P L xs) c := at_chk_ok at_XI_XX (fun m h => by have := h.h40; omega) (fun c hc => by cases hc) e
theorem at_MD.rf {m : fl_M} {w : List at_W} : at_MD m m w := ⟨Nat.le_refl _, fun p j h => absurd rfl h⟩
theorem at_MD.tr {m0 m1 m2 : fl_M} {w : List at_W} (h1 : at_MD m0 m1 w) (h2 : at_MD m1 m2 w) : at_MD m0 m2 w := by
  refine ⟨Nat.le_trans h1.1 h2.1, fun p j hne => ?_⟩
  by_cases e : m2.1 p j = m1.1 p j
  · exact h1.2 p j (by rw [← e]; exact hne)
  · exact h2.2 p j e
theorem at_MD.wk {m0 m1 : fl_M} {w w' : List at_W} (h : at_MD m0 m1 w) (hs : ∀ x ∈ w, x ∈ w') : at_MD m0 m1 w' :=
  ⟨h.1, fun p j hne => by obtain ⟨x, hx, hc⟩ := h.2 p j hne; exact ⟨x, hs x hx, hc⟩⟩
theorem at_MD.same {m0 m1 : fl_M} (h : at_MD m0 m1 []) : m1.1 = m0.1 := by
  funext p j
  by_cases e : m1.1 p j = m0.1 p j
  · exact e
  · obtain ⟨x, hx, -⟩ := h.2 p j e
    cases hx
def at_kI : at_K := .inr (false, -2147483648, 2147483647)
def at_rI : Option (Nat ⊕ (Bool × Int × Int)) := some (.inr (false, -2147483648, 2147483647))
def at_rJ : Option (Nat ⊕ (Bool × Int × Int)) := some (.inr (true, -9223372036854775808, 9223372036854775807))
def at_cGet : at_C := (193, [.inl (76, some 277), .inr (false, 0, 15), .inr (false, 0, 60)], [], at_rI, false, [])
def at_cFull : at_C := (195, [.inl (76, some 277), .inr (false, 0, 15)], [], at_rI, false, [])
def at_cPAt : at_C := (196, [.inl (76, some 277), .inr (false, 0, 15), at_kI], [(1, 0)], at_rI, false, [])
def at_cPOf : at_C := (197, [.inl (76, some 277), .inr (false, 0, 15)], [(1, 0)], at_rI, false, [])
def at_cSize : at_C := (188, [at_kI], [], at_rI, false, [])
def at_cAF : at_C := (43, [.inl (1, some 1)], [], at_rJ, false, [])
def at_cAC : at_C := (42, [.inl (1, some 1)], [], at_rJ, false, [])
def at_cRP : at_C := (7, [.inl (18, none)], [], at_rI, false, [])
def at_cAbs : at_C := (333, [at_kI], [], at_rI, false, [])
set_option maxRecDepth 1000000 in
theorem at_cGet_k : at_chk [] at_JT 4000 at_cGet = true := by decide +kernel
set_option maxRecDepth 1000000 in
theorem at_cFull_k : at_chk [] at_JT 4000 at_cFull = true := by decide +kernel
set_option maxRecDepth 1000000 in
theorem at_cPAt_k : at_chk [] at_JT 4000 at_cPAt = true := by decide +kernel
set_option maxRecDepth 1000000 in
theorem at_cPOf_k : at_chk [] at_JT 4000 at_cPOf = true := by decide +kernel
set_option maxRecDepth 1000000 in
theorem at_cSize_k : at_chk [] at_JT 4000 at_cSize = true := by decide +kernel
set_option maxRecDepth 1000000 in
theorem at_cAF_k : at_chk [] at_JT 4000 at_cAF = true := by decide +kernel
set_option maxRecDepth 1000000 in
theorem at_cAC_k : at_chk [] at_JT 4000 at_cAC = true := by decide +kernel
set_option maxRecDepth 1000000 in
theorem at_cRP_k : at_chk [] at_JT 4000 at_cRP = true := by decide +kernel
set_option maxRecDepth 1000000 in
theorem at_cAbs_k : at_chk [] at_JT 4000 at_cAbs = true := by decide +kernel
theorem at_k277 (h : Nat) : ∃ p, (at_this : fl_V) = .inr (.inr (.inl (76, p))) ∧ fk_K p = 76 ∧ p < fl_N h ∧ ∀ q, some 277 = some q → p = q := ⟨277, rfl, by decide +kernel, by unfold fl_N; omega, fun q h => by cases h; rfl⟩
theorem at_kint (h : Nat) {x : Int32} : at_agk h [at_kI] [.inl x] := ⟨⟨x, rfl, (at_i32 x).1, (at_i32 x).2⟩, True.intro⟩
section ATFL
variable {L : Nat} {xs : Nat → Int32}
theorem at_v156 : at_Valid at_XI (pw_P L xs) (156, [.inl (0, some 0)], [], some (.inr (true, -9223372036854775808, 9223372036854775807)), false, []) := by
  intro m vs hg hk _
  cases vs with
  | nil => cases hk
  | cons v r =>
  obtain ⟨⟨p, rfl, e1, e2, e3⟩, hr⟩ := hk
  have e4 := e3 0 rfl
  subst e4
  have hr0 := at_agnil (vs := r) hr
  subst hr0
  have k1 : ∀ h : Nat, at_agk h [.inl (1, some 1)] [.inr (.inr (.inl (1, 1)))] := fun h => ⟨⟨1, rfl, by decide +kernel, by unfold fl_N; omega, fun q h => by cases h; rfl⟩, True.intro⟩
  refine fl_Tq.stp rfl rfl (fl_bo rfl) rfl ?_
  refine fl_Tq.stp rfl rfl (fl_bo rfl) rfl ?_
  refine fl_Tq.cal rfl rfl (fl_bo rfl) rfl ?_
  refine fl_Tq.mono (at_vok at_cAF_k m [.inr (.inr (.inl (1, 1)))] hg (k1 _) (fun q hq => by cases hq)) (fun v m1 ⟨hg1, hm1, hv1⟩ => ?_)
  obtain ⟨x, rfl, -⟩ := hv1
  refine fl_Tq.stp rfl rfl (fl_bo rfl) rfl ?_
  refine fl_Tq.stp rfl rfl (fl_bo rfl) rfl ?_
  refine fl_Tq.stp rfl rfl (fl_bo rfl) rfl ?_
  refine fl_Tq.stp rfl rfl (fl_bo rfl) rfl ?_
  cases hb : am_c1 .ne (lg_cmp x 0) with
  | false =>
    refine fl_Tq.zf rfl (fl_bo rfl) hb rfl ?_
    refine fl_Tq.stp rfl rfl (fl_bo rfl) rfl ?_
    exact fl_Tq.ret rfl rfl rfl ⟨hg1, hm1, ⟨0, rfl, by decide, by decide, fun h => by cases h⟩⟩
  | true =>
    have hx : x ≠ 0 := fun h => by rw [h] at hb; exact absurd hb (by decide)
    refine fl_Tq.zt rfl (fl_bo rfl) hb rfl ?_
    refine fl_Tq.stp rfl rfl (fl_bo rfl) rfl ?_
    refine fl_Tq.stp rfl rfl (fl_bo rfl) rfl ?_
    refine fl_Tq.cal rfl rfl (fl_bo rfl) rfl ?_
    refine fl_Tq.mono (at_vok at_cAC_k m1 [.inr (.inr (.inl (1, 1)))] hg1 (k1 _) (fun q hq => by cases hq)) (fun v m2 ⟨hg2, hm2, hv2⟩ => ?_)
    obtain ⟨y, rfl, -⟩ := hv2
    refine fl_Tq.un (w := fl_d (FP.l2d y)) rfl rfl rfl (fun _ _ _ => rfl) ?_
    refine fl_Tq.stp rfl rfl (fl_bo rfl) rfl ?_
    refine fl_Tq.un (w := fl_d (FP.l2d x)) rfl rfl rfl (fun _ _ _ => rfl) ?_
    have nn : vf_n64 (FP.ddiv (FP.l2d y) (FP.l2d x)) := fp_div64 (fp_of_int64 y).1 ((fp_of_int64 x).2 hx).1 ((fp_of_int64 x).2 hx).2
    refine fl_Tq.bi (u := fl_d (FP.ddiv (FP.l2d y) (FP.l2d x))) rfl rfl rfl (fl_dbin (fun _ _ _ => rfl) nn) ?_
    refine fl_Tq.cal rfl rfl (fl_bo rfl) rfl ?_
    refine at_181 nn (fun z => ?_)
    refine fl_Tq.ret rfl rfl rfl ⟨hg2, hm1.tr hm2, ⟨z, rfl, ?_, ?_, fun h => by cases h⟩⟩
    · exact Int64.le_toInt z
    · have := Int64.toInt_lt z; omega
theorem at_v292 : at_Valid at_XI (pw_P L xs) (292, [.inl (76, some 277)], [], some (.inr (true, -9223372036854775808, 9223372036854775807)), false, []) := by
  intro m vs hg hk _
  obtain ⟨r, rfl, hk2⟩ := at_ag277 hk
  have hr0 := at_agnil (vs := r) hk2
  subst hr0
  have w2 : 0 ≤ (m.1 280 2).toInt ∧ (m.1 280 2).toInt ≤ 16 := hg.w2
  refine fl_Tq.stp rfl rfl (fl_bo rfl) rfl ?_
  refine fl_Tq.stp rfl rfl (fl_bo rfl) rfl ?_
  refine fl_Tq.stp rfl rfl (fl_bo rfl) rfl ?_
  refine fl_Tq.stp rfl rfl (fl_bo rfl) rfl ?_
  refine fl_Tq.stp rfl rfl (fl_bo rfl) rfl ?_
  refine fl_Tq.stp rfl rfl (fl_bo rfl) rfl ?_
  have loop : ∀ (d n : Nat) (s a : Int64) (m1 : fl_M), ((n + d : Nat) : Int) = (m.1 280 2).toInt → at_Good at_XI m1 → at_MD m m1 [] → fl_Tq (pw_P L xs) 292 7 [some at_this, some (fl_j s), none, some (fl_j a), none, some (.inl (Int32.ofNat n))] [] m1 (fun v m' => at_Good at_XI m' ∧ at_MD m m' [] ∧ at_rtc at_rJ false m' v) := by
    intro d
    induction d with
    | zero =>
      intro n s a m1 hn hg1 hm1
      have en := at_ofN (k := n) (by omega)
      refine fl_Tq.stp rfl rfl (fl_bo rfl) rfl ?_
      refine fl_Tq.stp rfl rfl (fl_bo rfl) rfl ?_
      refine fl_Tq.stp rfl rfl (fl_bo rfl) rfl ?_
      refine fl_Tq.stp rfl rfl (fl_bo rfl) rfl ?_
      refine fl_Tq.ld (p := 280) (τ := 79) (n := 29780) (z := (0, 0, 0)) (k := 2) rfl (fl_bo rfl) rfl rfl (by decide) ?_
      rw [hm1.same]
      refine fl_Tq.jt rfl (fl_bo rfl) ?_ rfl ?_
      · rw [at_c2, en]
        exact decide_eq_true (by omega)
      refine fl_Tq.stp rfl rfl (fl_bo rfl) rfl ?_
      refine fl_Tq.stp rfl rfl (fl_bo rfl) rfl ?_
      refine fl_Tq.stp rfl rfl (fl_bo rfl) rfl ?_
      cases hb : am_c1 .ne (lg_cmp a 0) with
      | false =>
        refine fl_Tq.zf rfl (fl_bo rfl) hb rfl ?_
        refine fl_Tq.stp rfl rfl (fl_bo rfl) rfl ?_
        refine fl_Tq.stp rfl rfl (fl_bo rfl) rfl ?_
        exact fl_Tq.ret rfl rfl rfl ⟨hg1, hm1, ⟨0, rfl, by decide, by decide, fun h => by cases h⟩⟩
      | true =>
        have hx : a ≠ 0 := fun h => by rw [h] at hb; exact absurd hb (by decide)
        refine fl_Tq.zt rfl (fl_bo rfl) hb rfl ?_
        refine fl_Tq.stp rfl rfl (fl_bo rfl) rfl ?_
        refine fl_Tq.un (w := fl_d (FP.l2d s)) rfl rfl rfl (fun _ _ _ => rfl) ?_
        refine fl_Tq.stp rfl rfl (fl_bo rfl) rfl ?_
        refine fl_Tq.un (w := fl_d (FP.l2d a)) rfl rfl rfl (fun _ _ _ => rfl) ?_
        have nn : vf_n64 (FP.ddiv (FP.l2d s) (FP.l2d a)) := fp_div64 (fp_of_int64 s).1 ((fp_of_int64 a).2 hx).1 ((fp_of_int64 a).2 hx).2
        refine fl_Tq.bi (u := fl_d (FP.ddiv (FP.l2d s) (FP.l2d a))) rfl rfl rfl (fl_dbin (fun _ _ _ => rfl) nn) ?_
        refine fl_Tq.cal rfl rfl (fl_bo rfl) rfl ?_
        refine at_327 (fun z => ?_)
        refine fl_Tq.ret rfl rfl rfl ⟨hg1, hm1, ⟨z, rfl, ?_, ?_, fun h => by cases h⟩⟩
        · exact Int64.le_toInt z
        · have := Int64.toInt_lt z; omega
    | succ d ih =>
      intro n s a m1 hn hg1 hm1
      have en := at_ofN (k := n) (by omega)
      refine fl_Tq.stp rfl rfl (fl_bo rfl) rfl ?_
      refine fl_Tq.stp rfl rfl (fl_bo rfl) rfl ?_
      refine fl_Tq.stp rfl rfl (fl_bo rfl) rfl ?_
      refine fl_Tq.stp rfl rfl (fl_bo rfl) rfl ?_
      refine fl_Tq.ld (p := 280) (τ := 79) (n := 29780) (z := (0, 0, 0)) (k := 2) rfl (fl_bo rfl) rfl rfl (by decide) ?_
      rw [hm1.same]
      refine fl_Tq.jf rfl (fl_bo rfl) ?_ rfl ?_
      · rw [at_c2, en]
        exact decide_eq_false (by omega)
      refine fl_Tq.stp rfl rfl (fl_bo rfl) rfl ?_
      refine fl_Tq.stp rfl rfl (fl_bo rfl) rfl ?_
      refine fl_Tq.stp rfl rfl (fl_bo rfl) rfl ?_
      refine fl_Tq.stp rfl rfl (fl_bo rfl) rfl ?_
      refine fl_Tq.cal rfl rfl (fl_bo rfl) rfl ?_
      refine fl_Tq.mono (at_vok at_cGet_k m1 [at_this, .inl (Int32.ofNat n), .inl (Int32.ofInt 1)] hg1 ⟨at_k277 _, ⟨_, rfl, by omega, by omega⟩, ⟨_, rfl, by decide, by decide⟩, True.intro⟩ (fun q hq => by cases hq)) (fun v m2 ⟨hg2, hm2, hv2⟩ => ?_)
      obtain ⟨x, rfl, -⟩ := hv2
      refine fl_Tq.stp rfl rfl (fl_bo rfl) rfl ?_
      refine fl_Tq.stp rfl rfl (fl_bo rfl) rfl ?_
      refine fl_Tq.stp rfl rfl (fl_bo rfl) rfl ?_
      refine fl_Tq.stp rfl rfl (fl_bo rfl) rfl ?_
      refine fl_Tq.stp rfl rfl (fl_bo rfl) rfl ?_
      refine fl_Tq.stp rfl rfl (fl_bo rfl) rfl ?_
      refine fl_Tq.cal rfl rfl (fl_bo rfl) rfl ?_
      refine fl_Tq.mono (at_vok at_cFull_k m2 [at_this, .inl (Int32.ofNat n)] hg2 ⟨at_k277 _, ⟨_, rfl, by omega, by omega⟩, True.intro⟩ (fun q hq => by cases hq)) (fun v m3 ⟨hg3, hm3, hv3⟩ => ?_)
      obtain ⟨y, rfl, -⟩ := hv3
      refine fl_Tq.stp rfl rfl (fl_bo rfl) rfl ?_
      refine fl_Tq.stp rfl rfl (fl_bo rfl) rfl ?_
      refine fl_Tq.stp rfl rfl (fl_bo rfl) rfl ?_
      refine fl_Tq.stp rfl rfl (fl_bo rfl) rfl ?_
      refine fl_Tq.stp rfl rfl (fl_bo rfl) rfl ?_
      have := ih (n + 1) (s + x.toInt64) (a + y.toInt64) m3 (by omega) hg3 ((hm1.tr hm2).tr hm3)
      rw [← at_inc (by omega)] at this
      exact this
  exact loop (m.1 280 2).toInt.toNat 0 0 0 m (by omega) hg at_MD.rf
theorem at_v293 : at_Valid at_XI (pw_P L xs) (293, [.inl (76, some 277)], [], some (.inr (false, -2147483648, 2147483647)), false, []) := by
  intro m vs hg hk _
  obtain ⟨r, rfl, hk2⟩ := at_ag277 hk
  have hr0 := at_agnil (vs := r) hk2
  subst hr0
  have w2 : 0 ≤ (m.1 280 2).toInt ∧ (m.1 280 2).toInt ≤ 16 := hg.w2
  refine fl_Tq.stp rfl rfl (fl_bo rfl) rfl ?_
  refine fl_Tq.stp rfl rfl (fl_bo rfl) rfl ?_
  refine fl_Tq.stp rfl rfl (fl_bo rfl) rfl ?_
  refine fl_Tq.stp rfl rfl (fl_bo rfl) rfl ?_
  have loop : ∀ (d n : Nat) (s : Int32) (m1 : fl_M), ((n + d : Nat) : Int) = (m.1 280 2).toInt → at_Good at_XI m1 → at_MD m m1 [] → fl_Tq (pw_P L xs) 293 4 [some at_this, some (.inl s), some (.inl (Int32.ofNat n))] [] m1 (fun v m' => at_Good at_XI m' ∧ at_MD m m' [] ∧ at_rtc at_rI false m' v) := by
    intro d
    induction d with
    | zero =>
      intro n s m1 hn hg1 hm1
      have en := at_ofN (k := n) (by omega)
      refine fl_Tq.stp rfl rfl (fl_bo rfl) rfl ?_
      refine fl_Tq.stp rfl rfl (fl_bo rfl) rfl ?_
      refine fl_Tq.stp rfl rfl (fl_bo rfl) rfl ?_
      refine fl_Tq.stp rfl rfl (fl_bo rfl) rfl ?_
      refine fl_Tq.ld (p := 280) (τ := 79) (n := 29780) (z := (0, 0, 0)) (k := 2) rfl (fl_bo rfl) rfl rfl (by decide) ?_
      rw [hm1.same]
      refine fl_Tq.jt rfl (fl_bo rfl) ?_ rfl ?_
      · rw [at_c2, en]
        exact decide_eq_true (by omega)
      refine fl_Tq.stp rfl rfl (fl_bo rfl) rfl ?_
      refine fl_Tq.stp rfl rfl (fl_bo rfl) rfl ?_
      refine fl_Tq.stp rfl rfl (fl_bo rfl) rfl ?_
      refine fl_Tq.ld (p := 280) (τ := 79) (n := 29780) (z := (0, 0, 0)) (k := 2) rfl (fl_bo rfl) rfl rfl (by decide) ?_
      rw [hm1.same]
      cases hb : am_c1 .ne (m.1 280 2) with
      | false =>
        refine fl_Tq.zf rfl (fl_bo rfl) hb rfl ?_
        refine fl_Tq.stp rfl rfl (fl_bo rfl) rfl ?_
        refine fl_Tq.stp rfl rfl (fl_bo rfl) rfl ?_
        exact fl_Tq.ret rfl rfl rfl ⟨hg1, hm1, ⟨_, rfl, (at_i32 _).1, (at_i32 _).2, fun h => by cases h⟩⟩
      | true =>
        have hx : m.1 280 2 ≠ 0 := fun h => by rw [h] at hb; exact absurd hb (by decide)
        refine fl_Tq.zt rfl (fl_bo rfl) hb rfl ?_
        refine fl_Tq.stp rfl rfl (fl_bo rfl) rfl ?_
        refine fl_Tq.un (w := fl_f (FP.i2f s)) rfl rfl rfl (fun _ _ _ => rfl) ?_
        refine fl_Tq.stp rfl rfl (fl_bo rfl) rfl ?_
        refine fl_Tq.stp rfl rfl (fl_bo rfl) rfl ?_
        refine fl_Tq.stp rfl rfl (fl_bo rfl) rfl ?_
        refine fl_Tq.ld (p := 280) (τ := 79) (n := 29780) (z := (0, 0, 0)) (k := 2) rfl (fl_bo rfl) rfl rfl (by decide) ?_
        rw [hm1.same]
        refine fl_Tq.un (w := fl_f (FP.i2f (m.1 280 2))) rfl rfl rfl (fun _ _ _ => rfl) ?_
        have nn : vf_n32 (FP.fdiv (FP.i2f s) (FP.i2f (m.1 280 2))) := fp_div32 (fp_of_int32 s).1 ((fp_of_int32 _).2 hx).1 ((fp_of_int32 _).2 hx).2
        refine fl_Tq.bi (u := fl_f (FP.fdiv (FP.i2f s) (FP.i2f (m.1 280 2)))) rfl rfl rfl (fl_fbin (fun _ _ _ => rfl) nn) ?_
        refine fl_Tq.cal rfl rfl (fl_bo rfl) rfl ?_
        refine at_329 (fun z => ?_)
        exact fl_Tq.ret rfl rfl rfl ⟨hg1, hm1, ⟨z, rfl, (at_i32 _).1, (at_i32 _).2, fun h => by cases h⟩⟩
    | succ d ih =>
      intro n s m1 hn hg1 hm1
      have en := at_ofN (k := n) (by omega)
      have lt : ∀ m' : fl_M, m'.1 = m.1 → (Int32.ofNat n).toInt + 0 + 1 ≤ at_w m' 2 := fun m' e => by
        unfold at_w
        rw [e, en]
        omega
      refine fl_Tq.stp rfl rfl (fl_bo rfl) rfl ?_
      refine fl_Tq.stp rfl rfl (fl_bo rfl) rfl ?_
      refine fl_Tq.stp rfl rfl (fl_bo rfl) rfl ?_
      refine fl_Tq.stp rfl rfl (fl_bo rfl) rfl ?_
      refine fl_Tq.ld (p := 280) (τ := 79) (n := 29780) (z := (0, 0, 0)) (k := 2) rfl (fl_bo rfl) rfl rfl (by decide) ?_
      rw [hm1.same]
      refine fl_Tq.jf rfl (fl_bo rfl) ?_ rfl ?_
      · rw [at_c2, en]
        exact decide_eq_false (by omega)
      refine fl_Tq.stp rfl rfl (fl_bo rfl) rfl ?_
      refine fl_Tq.stp rfl rfl (fl_bo rfl) rfl ?_
      refine fl_Tq.stp rfl rfl (fl_bo rfl) rfl ?_
      refine fl_Tq.stp rfl rfl (fl_bo rfl) rfl ?_
      refine fl_Tq.stp rfl rfl (fl_bo rfl) rfl ?_
      refine fl_Tq.stp rfl rfl (fl_bo rfl) rfl ?_
      refine fl_Tq.cal rfl rfl (fl_bo rfl) rfl ?_
      refine fl_Tq.mono (at_vok at_cGet_k m1 [at_this, .inl (Int32.ofNat n), .inl (Int32.ofInt 4)] hg1 ⟨at_k277 _, ⟨_, rfl, by omega, by omega⟩, ⟨_, rfl, by decide, by decide⟩, True.intro⟩ (fun q hq => by cases hq)) (fun v m2 ⟨hg2, hm2, hv2⟩ => ?_)
      obtain ⟨x, rfl, -⟩ := hv2
      have s2 := (hm1.tr hm2).same
      refine fl_Tq.cal rfl rfl (fl_bo rfl) rfl ?_
      refine fl_Tq.mono (at_vok at_cPAt_k m2 [at_this, .inl (Int32.ofNat n), .inl x] hg2 ⟨at_k277 _, ⟨_, rfl, by omega, by omega⟩, at_kint _⟩ (fun q hq => by cases List.mem_singleton.mp hq; exact ⟨_, rfl, lt m2 s2⟩)) (fun v m3 ⟨hg3, hm3, hv3⟩ => ?_)
      obtain ⟨y, rfl, -⟩ := hv3
      have s3 := ((hm1.tr hm2).tr hm3).same
      refine fl_Tq.stp rfl rfl (fl_bo rfl) rfl ?_
      refine fl_Tq.stp rfl rfl (fl_bo rfl) rfl ?_
      refine fl_Tq.cal rfl rfl (fl_bo rfl) rfl ?_
      refine fl_Tq.mono (at_vok at_cPOf_k m3 [at_this, .inl (Int32.ofNat n)] hg3 ⟨at_k277 _, ⟨_, rfl, by omega, by omega⟩, True.intro⟩ (fun q hq => by cases List.mem_singleton.mp hq; exact ⟨_, rfl, lt m3 s3⟩)) (fun v m4 ⟨hg4, hm4, hv4⟩ => ?_)
      obtain ⟨z, rfl, -⟩ := hv4
      refine fl_Tq.stp rfl rfl (fl_bo rfl) rfl ?_
      refine fl_Tq.cal rfl rfl (fl_bo rfl) rfl ?_
      refine fl_Tq.mono (at_vok at_cSize_k m4 [.inl (y - z)] hg4 (at_kint _) (fun q hq => by cases hq)) (fun v m5 ⟨hg5, hm5, hv5⟩ => ?_)
      obtain ⟨u, rfl, -⟩ := hv5
      refine fl_Tq.stp rfl rfl (fl_bo rfl) rfl ?_
      refine fl_Tq.stp rfl rfl (fl_bo rfl) rfl ?_
      refine fl_Tq.stp rfl rfl (fl_bo rfl) rfl ?_
      refine fl_Tq.stp rfl rfl (fl_bo rfl) rfl ?_
      have := ih (n + 1) (s + u) m5 (by omega) hg5 ((((hm1.tr hm2).tr hm3).tr hm4).tr hm5)
      rw [← at_inc (by omega)] at this
      exact this
  exact loop (m.1 280 2).toInt.toNat 0 0 m (by omega) hg at_MD.rf
end ATFL

end

/-! 89.05.off.lean.txt -/
section
/-! ===== the class's off ===== -/
theorem fl_Tq.qld {P : am_Pg} {mi pc p k : Nat} {lv : fl_L} {r : List fl_V} {m : fl_M} {τ n t b d : Nat} {i : Int32} {Q : Option fl_V → fl_M → Prop} (hc : am_code P mi pc = some .aaload) (hok : ∀ v ∈ (.inl i :: .inr (.inr (.inl (τ, p))) :: r : List fl_V), fl_ok m.2.2 v) (hk : fk_kd τ = .inr (2, n, t, b, d + 1)) (hi : i.toInt = k) (hlt : k < n) (q : fl_Tq P mi (pc + 1) lv (.inr (.inr (.inl (t, p + b + (d + 1) * k))) :: r) m Q) : fl_Tq P mi pc lv (.inl i :: .inr (.inr (.inl (τ, p))) :: r) m Q := by
  refine fl_Tq.stp (pc' := pc + 1) (lv' := lv) (st' := .inr (.inr (.inl (t, p + b + (d + 1) * k))) :: r) (m' := m) hc rfl hok ?_ q
  obtain ⟨h1, h2⟩ := at_in_ok (i := i) (n := n) (by omega) (by omega)
  have h3 : i.toNatClampNeg = k := by omega
  show ((match fk_kd τ with
    | .inr (t, n, τ', b, d) => bif decide (2 ≤ t ∧ t < 5) && (decide (d ≠ 0) && am_in i n) then some (pc + 1, lv, .inr (.inr (.inl (τ', p + b + d * i.toNatClampNeg))) :: r, m) else none
    | _ => none) : Option fl_C) = _
  rw [hk]
  show ((bif decide (2 ≤ 2 ∧ 2 < 5) && (decide (d + 1 ≠ 0) && am_in i n) then some (pc + 1, lv, .inr (.inr (.inl (t, p + b + (d + 1) * i.toNatClampNeg))) :: r, m) else none) : Option fl_C) = _
  rw [h1, h3, decide_eq_true (show d + 1 ≠ 0 by omega)]
  rfl
section ATOF
variable {L : Nat} {xs : Nat → Int32}
theorem at_v157 : at_Valid at_XI (pw_P L xs) (157, [.inl (0, some 0)], [], some (.inr (false, -2147483648, 2147483647)), false, []) := by
  intro m vs hg hk _
  cases vs with
  | nil => cases hk
  | cons v r =>
  obtain ⟨⟨p, rfl, e1, e2, e3⟩, hr⟩ := hk
  have e4 := e3 0 rfl
  subst e4
  have hr0 := at_agnil (vs := r) hr
  subst hr0
  have w2 : 0 ≤ (m.1 1 5).toInt ∧ (m.1 1 5).toInt ≤ 16 := by
    refine hg.1 1 (by unfold fl_N; omega) (0, 5, 0, 1, 1, 0, 16) ?_ 5 ⟨0, 0, by decide, by decide, by decide, by decide, by decide⟩
    decide +kernel
  have kc : ∀ n : Nat, n < 16 → fk_K (18 + 4 * n) = 18 := by
    intro n hn
    have : ∀ n : Fin 16, fk_K (18 + 4 * n.val) = 18 := by decide +kernel
    exact this ⟨n, hn⟩
  refine fl_Tq.stp rfl rfl (fl_bo rfl) rfl ?_
  refine fl_Tq.stp rfl rfl (fl_bo rfl) rfl ?_
  refine fl_Tq.stp rfl rfl (fl_bo rfl) rfl ?_
  cases hb : am_c1 .ne (m.1 1 5) with
  | false =>
    refine fl_Tq.zf rfl (fl_bo rfl) hb rfl ?_
    refine fl_Tq.stp rfl rfl (fl_bo rfl) rfl ?_
    exact fl_Tq.ret rfl rfl rfl ⟨hg, at_MD.rf, ⟨_, rfl, (at_i32 _).1, (at_i32 _).2, fun h => by cases h⟩⟩
  | true =>
    have hx : m.1 1 5 ≠ 0 := fun h => by rw [h] at hb; exact absurd hb (by decide)
    refine fl_Tq.zt rfl (fl_bo rfl) hb rfl ?_
    refine fl_Tq.stp rfl rfl (fl_bo rfl) rfl ?_
    refine fl_Tq.stp rfl rfl (fl_bo rfl) rfl ?_
    refine fl_Tq.stp rfl rfl (fl_bo rfl) rfl ?_
    refine fl_Tq.stp rfl rfl (fl_bo rfl) rfl ?_
    have loop : ∀ (d n : Nat) (s : Int32) (m1 : fl_M), ((n + d : Nat) : Int) = (m.1 1 5).toInt → at_Good at_XI m1 → at_MD m m1 [] → fl_Tq (pw_P L xs) 157 16 [some (.inr (.inr (.inl (0, 0)))), some (.inl s), some (.inl (Int32.ofNat n))] [] m1 (fun v m' => at_Good at_XI m' ∧ at_MD m m' [] ∧ at_rtc at_rI false m' v) := by
      intro d
      induction d with
      | zero =>
        intro n s m1 hn hg1 hm1
        have en := at_ofN (k := n) (by omega)
        refine fl_Tq.stp rfl rfl (fl_bo rfl) rfl ?_
        refine fl_Tq.stp rfl rfl (fl_bo rfl) rfl ?_
        refine fl_Tq.stp rfl rfl (fl_bo rfl) rfl ?_
        refine fl_Tq.stp rfl rfl (fl_bo rfl) rfl ?_
        have hw : m1.1 (0 + 1) 5 = m.1 1 5 := by rw [hm1.same]
        refine fl_Tq.jt rfl (fl_bo rfl) ?_ rfl ?_
        · show am_c2 .ge (Int32.ofNat n) (m1.1 (0 + 1) 5) = true
          rw [hw, at_c2, en]
          exact decide_eq_true (by omega)
        refine fl_Tq.stp rfl rfl (fl_bo rfl) rfl ?_
        refine fl_Tq.un (w := fl_f (FP.i2f s)) rfl rfl rfl (fun _ _ _ => rfl) ?_
        refine fl_Tq.stp rfl rfl (fl_bo rfl) rfl ?_
        refine fl_Tq.stp rfl rfl (fl_bo rfl) rfl ?_
        refine fl_Tq.stp rfl rfl (fl_bo rfl) rfl ?_
        refine fl_Tq.un (w := fl_f (FP.i2f (m1.1 (0 + 1) 5))) rfl rfl rfl (fun _ _ _ => rfl) ?_
        have hx' : m1.1 (0 + 1) 5 ≠ 0 := by rw [hw]; exact hx
        have nn : vf_n32 (FP.fdiv (FP.i2f s) (FP.i2f (m1.1 (0 + 1) 5))) := fp_div32 (fp_of_int32 s).1 ((fp_of_int32 _).2 hx').1 ((fp_of_int32 _).2 hx').2
        refine fl_Tq.bi (u := fl_f (FP.fdiv (FP.i2f s) (FP.i2f (m1.1 (0 + 1) 5)))) rfl rfl rfl (fl_fbin (fun _ _ _ => rfl) nn) ?_
        refine fl_Tq.cal rfl rfl (fl_bo rfl) rfl ?_
        refine at_182 nn (fun z => ?_)
        exact fl_Tq.ret rfl rfl rfl ⟨hg1, hm1, ⟨z, rfl, (at_i32 _).1, (at_i32 _).2, fun h => by cases h⟩⟩
      | succ d ih =>
        intro n s m1 hn hg1 hm1
        have en := at_ofN (k := n) (by omega)
        have hn16 : n < 16 := by omega
        refine fl_Tq.stp rfl rfl (fl_bo rfl) rfl ?_
        refine fl_Tq.stp rfl rfl (fl_bo rfl) rfl ?_
        refine fl_Tq.stp rfl rfl (fl_bo rfl) rfl ?_
        refine fl_Tq.stp rfl rfl (fl_bo rfl) rfl ?_
        have hw : m1.1 (0 + 1) 5 = m.1 1 5 := by rw [hm1.same]
        refine fl_Tq.jf rfl (fl_bo rfl) ?_ rfl ?_
        · show am_c2 .ge (Int32.ofNat n) (m1.1 (0 + 1) 5) = false
          rw [hw, at_c2, en]
          exact decide_eq_false (by omega)
        refine fl_Tq.stp rfl rfl (fl_bo rfl) rfl ?_
        refine fl_Tq.stp rfl rfl (fl_bo rfl) rfl ?_
        refine fl_Tq.stp rfl rfl (fl_bo rfl) rfl ?_
        refine fl_Tq.stp rfl rfl (fl_bo rfl) rfl ?_
        refine fl_Tq.stp rfl rfl (fl_bo rfl) rfl ?_
        have kcell : ∀ h : Nat, fl_ok h (.inr (.inr (.inl (18, 2 + 16 + (3 + 1) * n)))) := fun h => ⟨by have := kc n hn16; rw [show 2 + 16 + (3 + 1) * n = 18 + 4 * n by omega]; exact this, by show 2 + 16 + (3 + 1) * n < fl_N h; unfold fl_N; omega⟩
        refine fl_Tq.qld (p := 2) (τ := 2) (n := 16) (t := 18) (b := 16) (d := 3) (k := n) rfl (fl_bo rfl) rfl en hn16 ?_
        refine fl_Tq.cal rfl rfl (fl_oks_ok ⟨kcell _, True.intro, True.intro⟩) rfl ?_
        refine fl_Tq.mono (at_vok at_cRP_k m1 [.inr (.inr (.inl (18, 2 + 16 + (3 + 1) * n)))] hg1 ⟨⟨_, rfl, (kcell m1.2.2).1, (kcell m1.2.2).2, fun q h => by cases h⟩, True.intro⟩ (fun q hq => by cases hq)) (fun v m2 ⟨hg2, hm2, hv2⟩ => ?_)
        obtain ⟨x, rfl, -⟩ := hv2
        refine fl_Tq.stp rfl rfl (fl_bo rfl) rfl ?_
        refine fl_Tq.stp rfl rfl (fl_bo rfl) rfl ?_
        refine fl_Tq.stp rfl rfl (fl_bo rfl) rfl ?_
        refine fl_Tq.stp rfl rfl (fl_bo rfl) rfl ?_
        refine fl_Tq.qld (p := 2) (τ := 2) (n := 16) (t := 18) (b := 16) (d := 3) (k := n) rfl (fl_bo rfl) rfl en hn16 ?_
        refine fl_Tq.stp rfl rfl (fl_oks_ok ⟨kcell _, True.intro, True.intro, True.intro⟩) rfl ?_
        refine fl_Tq.stp rfl rfl (fl_bo rfl) rfl ?_
        refine fl_Tq.cal rfl rfl (fl_bo rfl) rfl ?_
        refine fl_Tq.mono (at_vok at_cAbs_k m2 [.inl (x - m2.1 (2 + 16 + (3 + 1) * n) 3)] hg2 (at_kint _) (fun q hq => by cases hq)) (fun v m3 ⟨hg3, hm3, hv3⟩ => ?_)
        obtain ⟨u, rfl, -⟩ := hv3
        refine fl_Tq.stp rfl rfl (fl_bo rfl) rfl ?_
        refine fl_Tq.stp rfl rfl (fl_bo rfl) rfl ?_
        refine fl_Tq.stp rfl rfl (fl_bo rfl) rfl ?_
        refine fl_Tq.stp rfl rfl (fl_bo rfl) rfl ?_
        have := ih (n + 1) (s + u) m3 (by omega) hg3 ((hm1.tr hm2).tr hm3)
        rw [← at_inc (by omega)] at this
        exact this
    exact loop (m.1 1 5).toInt.toNat 0 0 m (by omega) hg at_MD.rf
end ATOF

end

/-! 89.06.cell.lean.txt -/
section
/-! ===== a cell's words: get, let, its, full, hold ===== -/
theorem at_subw (x y : Int32) : (x - y).toInt = x.toInt - y.toInt ∨ (x.toInt - y.toInt > 2147483647 ∧ (x - y).toInt = x.toInt - y.toInt - 4294967296) ∨ (x.toInt - y.toInt < -2147483648 ∧ (x - y).toInt = x.toInt - y.toInt + 4294967296) := by
  have hx := at_i32 x
  have hy := at_i32 y
  have h : (x - y).toInt = Int.bmod (x.toInt - y.toInt) 4294967296 := Int32.toInt_sub x y
  rw [h, Int.bmod_def]
  split <;> omega
section ATCL
variable {L : Nat} {xs : Nat → Int32} {m : fl_M} {Q : Option fl_V → fl_M → Prop}
theorem at_ix {c w : Nat} {ci wi : Int32} (hc : ci.toInt = c) (hw : wi.toInt = w) (hc2 : c < 16) (hw2 : w < 61) : ((Int16.ofInt 444).toInt32 + (Int8.ofInt 61).toInt32 * ci + wi).toInt = ((444 + 61 * c + w : Nat) : Int) := by
  have e1 : (Int16.ofInt 444).toInt32.toInt = 444 := by decide +kernel
  have e2 : (Int8.ofInt 61).toInt32.toInt = 61 := by decide +kernel
  have e3 : ((Int8.ofInt 61).toInt32 * ci).toInt = 61 * (c : Int) := by rw [at_mul32] <;> rw [e2, hc] <;> omega
  have e4 : ((Int16.ofInt 444).toInt32 + (Int8.ofInt 61).toInt32 * ci).toInt = 444 + 61 * (c : Int) := by rw [at_add32] <;> rw [e1, e3] <;> omega
  rw [at_add32] <;> rw [e4, hw] <;> omega
theorem at_get {c w : Nat} {ci wi : Int32} (hc : ci.toInt = c) (hw : wi.toInt = w) (hc2 : c < 16) (hw2 : w < 61) (k : Q (some (.inl (m.1 280 (444 + 61 * c + w)))) m) : fl_Tq (pw_P L xs) 193 0 (fl_args (am_mxl (pw_P L xs) 193) [at_this, .inl ci, .inl wi]) [] m Q := by
  refine fl_Tq.stp rfl rfl (fl_bo rfl) rfl ?_
  refine fl_Tq.stp rfl rfl (fl_bo rfl) rfl ?_
  refine fl_Tq.stp rfl rfl (fl_bo rfl) rfl ?_
  refine fl_Tq.stp rfl rfl (fl_bo rfl) rfl ?_
  refine fl_Tq.stp rfl rfl (fl_bo rfl) rfl ?_
  refine fl_Tq.stp rfl rfl (fl_bo rfl) rfl ?_
  refine fl_Tq.stp rfl rfl (fl_bo rfl) rfl ?_
  refine fl_Tq.stp rfl rfl (fl_bo rfl) rfl ?_
  refine fl_Tq.stp rfl rfl (fl_bo rfl) rfl ?_
  refine fl_Tq.ld (p := 280) (τ := 79) (n := 29780) (z := (0, 0, 0)) (k := 444 + 61 * c + w) rfl (fl_bo rfl) rfl (at_ix hc hw hc2 hw2) (by omega) ?_
  exact fl_Tq.ret rfl rfl rfl k
theorem at_let {c w : Nat} {ci wi x : Int32} (hc : ci.toInt = c) (hw : wi.toInt = w) (hc2 : c < 16) (hw2 : w < 61) (k : ∀ m', m' = (fl_up m.1 280 (444 + 61 * c + w) x, m.2) → Q none m') : fl_Tq (pw_P L xs) 194 0 (fl_args (am_mxl (pw_P L xs) 194) [at_this, .inl ci, .inl wi, .inl x]) [] m Q := by
  refine fl_Tq.stp rfl rfl (fl_bo rfl) rfl ?_
  refine fl_Tq.stp rfl rfl (fl_bo rfl) rfl ?_
  refine fl_Tq.stp rfl rfl (fl_bo rfl) rfl ?_
  refine fl_Tq.stp rfl rfl (fl_bo rfl) rfl ?_
  refine fl_Tq.stp rfl rfl (fl_bo rfl) rfl ?_
  refine fl_Tq.stp rfl rfl (fl_bo rfl) rfl ?_
  refine fl_Tq.stp rfl rfl (fl_bo rfl) rfl ?_
  refine fl_Tq.stp rfl rfl (fl_bo rfl) rfl ?_
  refine fl_Tq.stp rfl rfl (fl_bo rfl) rfl ?_
  refine fl_Tq.stp rfl rfl (fl_bo rfl) rfl ?_
  refine fl_Tq.sv (p := 280) (τ := 79) (n := 29780) (z := (0, 0, 0)) (k := 444 + 61 * c + w) rfl (fl_bo rfl) rfl (at_ix hc hw hc2 hw2) (by omega) ?_
  exact fl_Tq.ret rfl rfl rfl (k _ rfl)
theorem at_its {w : Nat} {wi : Int32} (hw : wi.toInt = w) (hw2 : w < 30) (k : Q (some (.inl (m.1 280 (34 + w)))) m) : fl_Tq (pw_P L xs) 191 0 (fl_args (am_mxl (pw_P L xs) 191) [at_this, .inl wi]) [] m Q := by
  refine fl_Tq.stp rfl rfl (fl_bo rfl) rfl ?_
  refine fl_Tq.stp rfl rfl (fl_bo rfl) rfl ?_
  refine fl_Tq.stp rfl rfl (fl_bo rfl) rfl ?_
  refine fl_Tq.stp rfl rfl (fl_bo rfl) rfl ?_
  refine fl_Tq.stp rfl rfl (fl_bo rfl) rfl ?_
  have e1 : (Int8.ofInt 34).toInt32.toInt = 34 := by decide +kernel
  have e2 : ((Int8.ofInt 34).toInt32 + wi).toInt = ((34 + w : Nat) : Int) := by rw [at_add32] <;> rw [e1, hw] <;> omega
  refine fl_Tq.ld (p := 280) (τ := 79) (n := 29780) (z := (0, 0, 0)) (k := 34 + w) rfl (fl_bo rfl) rfl e2 (by omega) ?_
  exact fl_Tq.ret rfl rfl rfl k
theorem at_size {x : Int32} (k : ∀ v, Q (some (.inl v)) m) : fl_Tq (pw_P L xs) 188 0 (fl_args (am_mxl (pw_P L xs) 188) [.inl x]) [] m Q := by
  refine fl_Tq.stp rfl rfl (fl_bo rfl) rfl ?_
  cases hb : am_c1 .ge x with
  | true =>
    refine fl_Tq.zt rfl (fl_bo rfl) hb rfl ?_
    refine fl_Tq.stp rfl rfl (fl_bo rfl) rfl ?_
    exact fl_Tq.ret rfl rfl rfl (k _)
  | false =>
    refine fl_Tq.zf rfl (fl_bo rfl) hb rfl ?_
    refine fl_Tq.stp rfl rfl (fl_bo rfl) rfl ?_
    refine fl_Tq.stp rfl rfl (fl_bo rfl) rfl ?_
    refine fl_Tq.stp rfl rfl (fl_bo rfl) rfl ?_
    exact fl_Tq.ret rfl rfl rfl (k _)
theorem at_full {c : Nat} {ci : Int32} (hc : ci.toInt = c) (hc2 : c < 16) (hr : 0 ≤ at_w m (444 + 61 * c) ∧ at_w m (444 + 61 * c) ≤ 9999) (k : ∀ v : Int32, v.toInt = 3600 * at_w m (444 + 61 * c) → Q (some (.inl v)) m) : fl_Tq (pw_P L xs) 195 0 (fl_args (am_mxl (pw_P L xs) 195) [at_this, .inl ci]) [] m Q := by
  refine fl_Tq.stp rfl rfl (fl_bo rfl) rfl ?_
  refine fl_Tq.stp rfl rfl (fl_bo rfl) rfl ?_
  refine fl_Tq.stp rfl rfl (fl_bo rfl) rfl ?_
  refine fl_Tq.stp rfl rfl (fl_bo rfl) rfl ?_
  refine fl_Tq.cal rfl rfl (fl_bo rfl) rfl ?_
  refine at_get (w := 0) hc (by decide) hc2 (by decide) ?_
  refine fl_Tq.stp rfl rfl (fl_bo rfl) rfl ?_
  refine fl_Tq.ret rfl rfl rfl (k _ ?_)
  dsimp only
  have e1 : (Int16.ofInt 3600).toInt32.toInt = 3600 := by decide +kernel
  have e2 : (m.1 280 (444 + 61 * c + 0)).toInt = at_w m (444 + 61 * c) := rfl
  rw [at_mul32] <;> rw [e1, e2] <;> omega
/-- hold: the charge between 0 and what is full -/
theorem at_hold {c : Nat} {ci : Int32} (hc : ci.toInt = c) (hc2 : c < 16) (hr : 0 ≤ at_w m (444 + 61 * c) ∧ at_w m (444 + 61 * c) ≤ 9999) (k : ∀ (x y : Int32) (m' : fl_M), 0 ≤ x.toInt → x.toInt ≤ 3600 * at_w m (444 + 61 * c) → m' = (fl_up (fl_up m.1 280 (445 + 61 * c) x) 280 (448 + 61 * c) y, m.2) → Q none m') : fl_Tq (pw_P L xs) 214 0 (fl_args (am_mxl (pw_P L xs) 214) [at_this, .inl ci]) [] m Q := by
  refine fl_Tq.stp rfl rfl (fl_bo rfl) rfl ?_
  refine fl_Tq.stp rfl rfl (fl_bo rfl) rfl ?_
  refine fl_Tq.stp rfl rfl (fl_bo rfl) rfl ?_
  refine fl_Tq.stp rfl rfl (fl_bo rfl) rfl ?_
  refine fl_Tq.stp rfl rfl (fl_bo rfl) rfl ?_
  refine fl_Tq.stp rfl rfl (fl_bo rfl) rfl ?_
  refine fl_Tq.cal rfl rfl (fl_bo rfl) rfl ?_
  refine at_get (w := 1) hc (by decide) hc2 (by decide) ?_
  refine fl_Tq.stp rfl rfl (fl_bo rfl) rfl ?_
  refine fl_Tq.stp rfl rfl (fl_bo rfl) rfl ?_
  refine fl_Tq.stp rfl rfl (fl_bo rfl) rfl ?_
  refine fl_Tq.cal rfl rfl (fl_bo rfl) rfl ?_
  refine at_full hc hc2 hr (fun f ef => ?_)
  refine fl_Tq.cal rfl rfl (fl_bo rfl) rfl ?_
  refine at_held _ _ _ ?_
  have hx : 0 ≤ (if m.1 280 (444 + 61 * c + 1) < Int32.ofInt 0 then Int32.ofInt 0 else if f < m.1 280 (444 + 61 * c + 1) then f else m.1 280 (444 + 61 * c + 1)).toInt ∧ (if m.1 280 (444 + 61 * c + 1) < Int32.ofInt 0 then Int32.ofInt 0 else if f < m.1 280 (444 + 61 * c + 1) then f else m.1 280 (444 + 61 * c + 1)).toInt ≤ 3600 * at_w m (444 + 61 * c) := by
    generalize m.1 280 (444 + 61 * c + 1) = v
    have e0 : (Int32.ofInt 0).toInt = 0 := rfl
    by_cases h1 : v < Int32.ofInt 0
    · rw [if_pos h1, e0]; omega
    · have h1' : ¬ v.toInt < (Int32.ofInt 0).toInt := fun q => h1 (Int32.lt_iff_toInt_lt.mpr q)
      rw [if_neg h1]
      by_cases h2 : f < v
      · rw [if_pos h2]; omega
      · have h2' : ¬ f.toInt < v.toInt := fun q => h2 (Int32.lt_iff_toInt_lt.mpr q)
        rw [if_neg h2]; omega
  generalize (if m.1 280 (444 + 61 * c + 1) < Int32.ofInt 0 then Int32.ofInt 0 else if f < m.1 280 (444 + 61 * c + 1) then f else m.1 280 (444 + 61 * c + 1)) = x at hx
  refine fl_Tq.cal rfl rfl (fl_bo rfl) rfl ?_
  refine at_let (w := 1) hc (by decide) hc2 (by decide) (fun m1 e1 => ?_)
  have hr1 : at_w m1 (444 + 61 * c) = at_w m (444 + 61 * c) := by
    rw [e1]
    show (fl_up m.1 280 (444 + 61 * c + 1) x 280 (444 + 61 * c)).toInt = _
    rw [bl_un (fun _ => by omega)]
    rfl
  refine fl_Tq.stp rfl rfl (fl_bo rfl) rfl ?_
  refine fl_Tq.stp rfl rfl (fl_bo rfl) rfl ?_
  refine fl_Tq.stp rfl rfl (fl_bo rfl) rfl ?_
  refine fl_Tq.stp rfl rfl (fl_bo rfl) rfl ?_
  refine fl_Tq.stp rfl rfl (fl_bo rfl) rfl ?_
  refine fl_Tq.stp rfl rfl (fl_bo rfl) rfl ?_
  refine fl_Tq.cal rfl rfl (fl_bo rfl) rfl ?_
  refine at_get (w := 4) hc (by decide) hc2 (by decide) ?_
  refine fl_Tq.stp rfl rfl (fl_bo rfl) rfl ?_
  refine fl_Tq.stp rfl rfl (fl_bo rfl) rfl ?_
  refine fl_Tq.stp rfl rfl (fl_bo rfl) rfl ?_
  refine fl_Tq.cal rfl rfl (fl_bo rfl) rfl ?_
  refine at_full hc hc2 (by rw [hr1]; exact hr) (fun f2 ef2 => ?_)
  refine fl_Tq.cal rfl rfl (fl_bo rfl) rfl ?_
  refine at_held _ _ _ ?_
  generalize (if m1.1 280 (444 + 61 * c + 4) < Int32.ofInt 0 then Int32.ofInt 0 else if f2 < m1.1 280 (444 + 61 * c + 4) then f2 else m1.1 280 (444 + 61 * c + 4)) = y
  refine fl_Tq.cal rfl rfl (fl_bo rfl) rfl ?_
  refine at_let (w := 4) hc (by decide) hc2 (by decide) (fun m2 e2 => ?_)
  refine fl_Tq.ret rfl rfl rfl (k x y m2 hx.1 hx.2 ?_)
  rw [e2, e1]
  have q1 : 444 + 61 * c + 1 = 445 + 61 * c := by omega
  have q2 : 444 + 61 * c + 4 = 448 + 61 * c := by omega
  rw [q1, q2]
end ATCL
/-! ===== one cell's words are changed ===== -/
def at_memb (j : Int) (r : at_R) : Bool := (List.range r.2.2.2.1.toNat).any (fun o => decide (r.2.1 + r.2.2.1 * (o : Int) ≤ j ∧ j ≤ r.2.1 + r.2.2.1 * (o : Int) + (r.2.2.2.2.1 - 1)))
theorem at_memb_ok {j : Int} {r : at_R} (h : at_mem j r) : at_memb j r = true := by
  obtain ⟨o, i, h1, h2, h3, h4, h5⟩ := h
  refine List.any_eq_true.mpr ⟨o.toNat, List.mem_range.mpr (by omega), decide_eq_true ?_⟩
  have : ((o.toNat : Nat) : Int) = o := Int.toNat_of_nonneg h1
  rw [this]
  omega
def at_R0 : at_R := (1, 444, 61, 16, 1, 0, 9999)
def at_R1 : at_R := (2, 445, 61, 16, 1, -2147483648, 2147483647)
theorem at_cuck : (List.range 16).all (fun c => ([0, 1, 4, 5, 9] : List Nat).all (fun k => (at_rg at_TA).all (fun r => !at_memb (444 + 61 * (c : Int) + (k : Int)) r || (decide (k = 0) && decide (r = at_R0) || decide (k = 1) && decide (r = at_R1))))) = true := by decide +kernel
theorem at_cu1 {c k : Nat} (hc : c < 16) (hk : k = 0 ∨ k = 1 ∨ k = 4 ∨ k = 5 ∨ k = 9) {r : at_R} (hr : r ∈ at_rg at_TA) {j : Nat} (ej : j = 444 + 61 * c + k) (h : at_mem j r) : (k = 0 ∧ r = at_R0) ∨ (k = 1 ∧ r = at_R1) := by
  have h1 := List.all_eq_true.mp at_cuck c (List.mem_range.mpr hc)
  have h2 := List.all_eq_true.mp h1 k (by rcases hk with rfl | rfl | rfl | rfl | rfl <;> simp)
  have h3 := List.all_eq_true.mp h2 r hr
  have e : ((444 + 61 * (c : Int)) + (k : Int)) = (j : Int) := by omega
  rw [e, at_memb_ok h] at h3
  simp only [Bool.not_true, Bool.false_or, Bool.or_eq_true, Bool.and_eq_true, decide_eq_true_eq] at h3
  exact h3
def at_out (c j : Nat) : Prop := j ≠ 444 + 61 * c ∧ j ≠ 445 + 61 * c ∧ j ≠ 448 + 61 * c ∧ j ≠ 449 + 61 * c ∧ j ≠ 453 + 61 * c
theorem at_AK.cell {w w' : Nat → Int} (h : at_AK w) {c : Nat} (hc : c < 16) (hs : ∀ j : Nat, at_out c j → w' j = w j) (hb : ∀ j, -2147483648 ≤ w' j ∧ w' j ≤ 2147483647) (h1 : 100 ≤ w' (444 + 61 * c)) (h2 : w' (444 + 61 * c) ≤ 9999) (h3 : 0 ≤ w' (445 + 61 * c)) (h4 : w' (445 + 61 * c) ≤ 3600 * w' (444 + 61 * c)) : at_AK w' := by
  obtain ⟨a1, a2, a3⟩ := h
  refine ⟨fun r hr j hj hm => ?_, fun c' hc' hl => ?_, fun k hk => ?_⟩
  · by_cases ho : at_out c j
    · rw [hs j ho]
      exact a1 r hr j hj hm
    · have : ∃ k : Nat, (k = 0 ∨ k = 1 ∨ k = 4 ∨ k = 5 ∨ k = 9) ∧ j = 444 + 61 * c + k := by
        unfold at_out at ho
        by_cases e0 : j = 444 + 61 * c
        · exact ⟨0, Or.inl rfl, by omega⟩
        by_cases e1 : j = 445 + 61 * c
        · exact ⟨1, Or.inr (Or.inl rfl), by omega⟩
        by_cases e4 : j = 448 + 61 * c
        · exact ⟨4, Or.inr (Or.inr (Or.inl rfl)), by omega⟩
        by_cases e5 : j = 449 + 61 * c
        · exact ⟨5, Or.inr (Or.inr (Or.inr (Or.inl rfl))), by omega⟩
        by_cases e9 : j = 453 + 61 * c
        · exact ⟨9, Or.inr (Or.inr (Or.inr (Or.inr rfl))), by omega⟩
        exact absurd ⟨e0, e1, e4, e5, e9⟩ ho
      obtain ⟨k, hk, ej⟩ := this
      rcases at_cu1 hc hk hr ej hm with ⟨rfl, rfl⟩ | ⟨rfl, rfl⟩
      · have : j = 444 + 61 * c := by omega
        rw [this]
        exact ⟨by show (0 : Int) ≤ _; omega, h2⟩
      · exact hb j
  · have e2 : w' 2 = w 2 := hs 2 (by unfold at_out; omega)
    rw [e2] at hl
    obtain ⟨x1, x2, x3, x4, x5⟩ := a2 c' hc' hl
    by_cases e : c' = c
    · subst e
      rw [hs (450 + 61 * c') (by unfold at_out; omega), hs (454 + 61 * c') (by unfold at_out; omega)]
      exact ⟨h1, x2, x3, h3, h4⟩
    · rw [hs (444 + 61 * c') (by unfold at_out; omega), hs (445 + 61 * c') (by unfold at_out; omega), hs (450 + 61 * c') (by unfold at_out; omega), hs (454 + 61 * c') (by unfold at_out; omega)]
      exact ⟨x1, x2, x3, x4, x5⟩
  · rw [hs (341 + 35 * k) (by unfold at_out; omega), hs 2 (by unfold at_out; omega)]
    exact a3 k hk
/-- but one cell's words nothing is changed -/
def at_U (m : fl_M) (c : Nat) (m' : fl_M) : Prop := m'.2 = m.2 ∧ (∀ p j : Nat, (p = 280 → at_out c j) → m'.1 p j = m.1 p j) ∧ 100 ≤ at_w m' (444 + 61 * c) ∧ at_w m' (444 + 61 * c) ≤ 9999
theorem at_U.up {m m' : fl_M} {c j : Nat} {x : Int32} (h : at_U m c m') (hj : j = 445 + 61 * c ∨ j = 448 + 61 * c ∨ j = 449 + 61 * c ∨ j = 453 + 61 * c) : at_U m c (fl_up m'.1 280 j x, m'.2) := by
  obtain ⟨h1, h2, h3⟩ := h
  refine ⟨h1, fun p i hp => ?_, ?_⟩
  · show fl_up m'.1 280 j x p i = _
    rw [bl_un (fun e => by have := hp e; unfold at_out at this; omega)]
    exact h2 p i hp
  · have : at_w (fl_up m'.1 280 j x, m'.2) (444 + 61 * c) = at_w m' (444 + 61 * c) := by
      show (fl_up m'.1 280 j x 280 (444 + 61 * c)).toInt = _
      rw [bl_un (fun _ => by omega)]
      rfl
    rw [this]
    exact h3
theorem at_U.good {m m' : fl_M} {c : Nat} (hg : at_Good at_XI m) (hc : c < 16) (h : at_U m c m') (h3 : 0 ≤ at_w m' (445 + 61 * c)) (h4 : at_w m' (445 + 61 * c) ≤ 3600 * at_w m' (444 + 61 * c)) : at_Good at_XI m' ∧ at_MD m m' [(79, false, 444, 1419)] := by
  obtain ⟨e1, e2, e3, e4⟩ := h
  have ew : ∀ j : Nat, at_out c j → at_w m' j = at_w m j := fun j hj => by
    unfold at_w
    rw [e2 280 j (fun _ => hj)]
  have hX : at_XI m' := hg.2.2.keep (by rw [e1]) (fun p j hp => e2 p j (fun e => by unfold at_out; unfold fl_N at hp; omega))
  refine ⟨hg.mk (by rw [e1]) hX (fun p j hp _ hne => absurd (e2 p j (fun e => absurd e hp)) hne) (by rw [ew 0 (by unfold at_out; omega)]; exact hg.w0) (by rw [ew 1 (by unfold at_out; omega)]; exact hg.w1) (hg.AK.cell hc ew (fun j => at_i32 _) e3 e4 h3 h4), ⟨by rw [e1]; exact Nat.le_refl _, fun p j hne => ⟨_, List.mem_singleton.mpr rfl, ?_⟩⟩⟩
  by_cases e : p = 280
  · subst e
    refine ⟨fk_K_280.symm, ?_⟩
    rw [if_neg (by decide)]
    by_cases ho : at_out c j
    · exact absurd (e2 280 j (fun _ => ho)) hne
    · unfold at_out at ho
      show (444 : Int) ≤ j ∧ (j : Int) ≤ 1419
      omega
  · exact absurd (e2 p j (fun h => absurd h e)) hne

end
