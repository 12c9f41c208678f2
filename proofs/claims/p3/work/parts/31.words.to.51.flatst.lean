/-! 31.words.lean.txt -/
section
/-! ===== printed by wip/gen/good.py: the program is what the claim's tables say ===== -/
theorem pw_in {ws : List Cond} {ix : List Nat} (h : ws = ix.filterMap (fun i => lw_tbl[i]?)) : ∀ w ∈ ws, w ∈ lw_tbl := by
  intro w hw
  rw [h] at hw
  obtain ⟨i, -, hi⟩ := List.mem_filterMap.mp hw
  exact List.mem_of_getElem? hi
set_option maxRecDepth 100000 in
theorem pw_e_lay : pw_Wlay = pw_Wlay_i.filterMap (fun i => lw_tbl[i]?) := by decide +kernel
set_option maxRecDepth 100000 in
theorem pw_g_lay : pw_Wlay.all goodWord = true := by decide +kernel
set_option maxRecDepth 100000 in
theorem pw_e_fl : pw_Wfl = pw_Wfl_i.filterMap (fun i => lw_tbl[i]?) := by decide +kernel
set_option maxRecDepth 100000 in
theorem pw_g_fl : pw_Wfl.all goodWord = true := by decide +kernel
set_option maxRecDepth 100000 in
theorem pw_e_st : pw_Wst = pw_Wst_i.filterMap (fun i => lw_tbl[i]?) := by decide +kernel
set_option maxRecDepth 100000 in
theorem pw_g_st : pw_Wst.all goodWord = true := by decide +kernel
set_option maxRecDepth 100000 in
theorem pw_e_co : pw_Wco = pw_Wco_i.filterMap (fun i => lw_tbl[i]?) := by decide +kernel
set_option maxRecDepth 100000 in
theorem pw_g_co : pw_Wco.all goodWord = true := by decide +kernel
set_option maxRecDepth 100000 in
theorem pw_e_nl : pw_Wnl = pw_Wnl_i.filterMap (fun i => lw_tbl[i]?) := by decide +kernel
set_option maxRecDepth 100000 in
theorem pw_g_nl : pw_Wnl.all goodWord = true := by decide +kernel
set_option maxRecDepth 100000 in
theorem pw_e_ni : pw_Wni = pw_Wni_i.filterMap (fun i => lw_tbl[i]?) := by decide +kernel
set_option maxRecDepth 100000 in
theorem pw_g_ni : pw_Wni.all goodWord = true := by decide +kernel
set_option maxRecDepth 100000 in
theorem pw_e_in : pw_Win = pw_Win_i.filterMap (fun i => lw_tbl[i]?) := by decide +kernel
set_option maxRecDepth 100000 in
theorem pw_g_in : pw_Win.all goodWord = true := by decide +kernel
set_option maxRecDepth 100000 in
theorem pw_e_ar : pw_War = pw_War_i.filterMap (fun i => lw_tbl[i]?) := by decide +kernel
set_option maxRecDepth 100000 in
theorem pw_g_ar : pw_War.all goodWord = true := by decide +kernel
set_option maxRecDepth 100000 in
theorem pw_e_na : pw_Wna = pw_Wna_i.filterMap (fun i => lw_tbl[i]?) := by decide +kernel
set_option maxRecDepth 100000 in
theorem pw_g_na : pw_Wna.all goodWord = true := by decide +kernel
set_option maxRecDepth 100000 in
theorem pw_e_ml : pw_Wml = pw_Wml_i.filterMap (fun i => lw_tbl[i]?) := by decide +kernel
set_option maxRecDepth 100000 in
theorem pw_g_ml : pw_Wml.all goodWord = true := by decide +kernel
set_option maxRecDepth 100000 in
theorem pw_e_sk : pw_Wsk = pw_Wsk_i.filterMap (fun i => lw_tbl[i]?) := by decide +kernel
set_option maxRecDepth 100000 in
theorem pw_g_sk : pw_Wsk.all goodWord = true := by decide +kernel
set_option maxRecDepth 100000 in
theorem pw_e_ik : pw_Wik = pw_Wik_i.filterMap (fun i => lw_tbl[i]?) := by decide +kernel
set_option maxRecDepth 100000 in
theorem pw_g_ik : pw_Wik.all goodWord = true := by decide +kernel
set_option maxRecDepth 100000 in
theorem pw_e_vk : pw_Wvk = pw_Wvk_i.filterMap (fun i => lw_tbl[i]?) := by decide +kernel
set_option maxRecDepth 100000 in
theorem pw_g_vk : pw_Wvk.all goodWord = true := by decide +kernel
set_option maxRecDepth 100000 in
theorem pw_en_fl : pw_Nfl = pw_Nfl_i.filterMap (fun i => lw_tbl[i]?) := by decide +kernel
set_option maxRecDepth 100000 in
theorem pw_en_st : pw_Nst = pw_Nst_i.filterMap (fun i => lw_tbl[i]?) := by decide +kernel
set_option maxRecDepth 100000 in
theorem pw_en_ml : pw_Nml = pw_Nml_i.filterMap (fun i => lw_tbl[i]?) := by decide +kernel
set_option maxRecDepth 100000 in
theorem pw_en_ao : pw_Nao = pw_Nao_i.filterMap (fun i => lw_tbl[i]?) := by decide +kernel
theorem pw_tb_0 {w : Cond} (h : w ∈ tables_1_1) : w ∈ lw_tbl := List.mem_append_right _ (show w ∈ tables_1 from List.mem_append_left _ h)
theorem pw_tb_1 {w : Cond} (h : w ∈ tables_1_2) : w ∈ lw_tbl := List.mem_append_right _ (show w ∈ tables_1 from List.mem_append_right _ (List.mem_append_left _ h))
theorem pw_tb_2 {w : Cond} (h : w ∈ tables_1_3) : w ∈ lw_tbl := List.mem_append_right _ (show w ∈ tables_1 from List.mem_append_right _ (List.mem_append_right _ (List.mem_append_left _ h)))
theorem pw_tb_3 {w : Cond} (h : w ∈ tables_1_4) : w ∈ lw_tbl := List.mem_append_right _ (show w ∈ tables_1 from List.mem_append_right _ (List.mem_append_right _ (List.mem_append_right _ (List.mem_append_left _ h))))
theorem pw_tb_4 {w : Cond} (h : w ∈ tables_1_5) : w ∈ lw_tbl := List.mem_append_right _ (show w ∈ tables_1 from List.mem_append_right _ (List.mem_append_right _ (List.mem_append_right _ (List.mem_append_right _ (List.mem_append_left _ h)))))
theorem pw_tb_5 {w : Cond} (h : w ∈ tables_1_6) : w ∈ lw_tbl := List.mem_append_right _ (show w ∈ tables_1 from List.mem_append_right _ (List.mem_append_right _ (List.mem_append_right _ (List.mem_append_right _ (List.mem_append_right _ (List.mem_append_left _ h))))))
theorem pw_tb_6 {w : Cond} (h : w ∈ tables_1_7) : w ∈ lw_tbl := List.mem_append_right _ (show w ∈ tables_1 from List.mem_append_right _ (List.mem_append_right _ (List.mem_append_right _ (List.mem_append_right _ (List.mem_append_right _ (List.mem_append_right _ (List.mem_append_left _ h)))))))
theorem pw_tb_7 {w : Cond} (h : w ∈ tables_1_8) : w ∈ lw_tbl := List.mem_append_right _ (show w ∈ tables_1 from List.mem_append_right _ (List.mem_append_right _ (List.mem_append_right _ (List.mem_append_right _ (List.mem_append_right _ (List.mem_append_right _ (List.mem_append_right _ (h))))))))
theorem pw_cd_1 : Cond.code (pw_y 1) (pw_cc 1) (pw_mxl 1) (pw_ret 1) ∈ lw_tbl := pw_tb_0 (List.mem_of_getElem? (i := 160) rfl)
theorem pw_cd_2 : Cond.code (pw_y 2) (pw_cc 2) (pw_mxl 2) (pw_ret 2) ∈ lw_tbl := pw_tb_1 (List.mem_of_getElem? (i := 213) rfl)
theorem pw_cd_3 : Cond.code (pw_y 3) (pw_cc 3) (pw_mxl 3) (pw_ret 3) ∈ lw_tbl := pw_tb_1 (List.mem_of_getElem? (i := 174) rfl)
theorem pw_cd_4 : Cond.code (pw_y 4) (pw_cc 4) (pw_mxl 4) (pw_ret 4) ∈ lw_tbl := pw_tb_1 (List.mem_of_getElem? (i := 224) rfl)
theorem pw_cd_5 : Cond.code (pw_y 5) (pw_cc 5) (pw_mxl 5) (pw_ret 5) ∈ lw_tbl := pw_tb_1 (List.mem_of_getElem? (i := 220) rfl)
theorem pw_cd_6 : Cond.code (pw_y 6) (pw_cc 6) (pw_mxl 6) (pw_ret 6) ∈ lw_tbl := pw_tb_2 (List.mem_of_getElem? (i := 120) rfl)
theorem pw_cd_7 : Cond.code (pw_y 7) (pw_cc 7) (pw_mxl 7) (pw_ret 7) ∈ lw_tbl := pw_tb_3 (List.mem_of_getElem? (i := 158) rfl)
theorem pw_cd_8 : Cond.code (pw_y 8) (pw_cc 8) (pw_mxl 8) (pw_ret 8) ∈ lw_tbl := pw_tb_2 (List.mem_of_getElem? (i := 53) rfl)
theorem pw_cd_9 : Cond.code (pw_y 9) (pw_cc 9) (pw_mxl 9) (pw_ret 9) ∈ lw_tbl := pw_tb_2 (List.mem_of_getElem? (i := 89) rfl)
theorem pw_cd_10 : Cond.code (pw_y 10) (pw_cc 10) (pw_mxl 10) (pw_ret 10) ∈ lw_tbl := pw_tb_2 (List.mem_of_getElem? (i := 109) rfl)
theorem pw_cd_11 : Cond.code (pw_y 11) (pw_cc 11) (pw_mxl 11) (pw_ret 11) ∈ lw_tbl := pw_tb_2 (List.mem_of_getElem? (i := 116) rfl)
theorem pw_cd_12 : Cond.code (pw_y 12) (pw_cc 12) (pw_mxl 12) (pw_ret 12) ∈ lw_tbl := pw_tb_2 (List.mem_of_getElem? (i := 140) rfl)
theorem pw_cd_13 : Cond.code (pw_y 13) (pw_cc 13) (pw_mxl 13) (pw_ret 13) ∈ lw_tbl := pw_tb_2 (List.mem_of_getElem? (i := 150) rfl)
theorem pw_cd_14 : Cond.code (pw_y 14) (pw_cc 14) (pw_mxl 14) (pw_ret 14) ∈ lw_tbl := pw_tb_2 (List.mem_of_getElem? (i := 158) rfl)
theorem pw_cd_15 : Cond.code (pw_y 15) (pw_cc 15) (pw_mxl 15) (pw_ret 15) ∈ lw_tbl := pw_tb_2 (List.mem_of_getElem? (i := 163) rfl)
theorem pw_cd_16 : Cond.code (pw_y 16) (pw_cc 16) (pw_mxl 16) (pw_ret 16) ∈ lw_tbl := pw_tb_2 (List.mem_of_getElem? (i := 227) rfl)
theorem pw_cd_17 : Cond.code (pw_y 17) (pw_cc 17) (pw_mxl 17) (pw_ret 17) ∈ lw_tbl := pw_tb_3 (List.mem_of_getElem? (i := 196) rfl)
theorem pw_cd_18 : Cond.code (pw_y 18) (pw_cc 18) (pw_mxl 18) (pw_ret 18) ∈ lw_tbl := pw_tb_3 (List.mem_of_getElem? (i := 154) rfl)
theorem pw_cd_19 : Cond.code (pw_y 19) (pw_cc 19) (pw_mxl 19) (pw_ret 19) ∈ lw_tbl := pw_tb_1 (List.mem_of_getElem? (i := 109) rfl)
theorem pw_cd_20 : Cond.code (pw_y 20) (pw_cc 20) (pw_mxl 20) (pw_ret 20) ∈ lw_tbl := pw_tb_1 (List.mem_of_getElem? (i := 157) rfl)
theorem pw_cd_21 : Cond.code (pw_y 21) (pw_cc 21) (pw_mxl 21) (pw_ret 21) ∈ lw_tbl := pw_tb_3 (List.mem_of_getElem? (i := 118) rfl)
theorem pw_cd_22 : Cond.code (pw_y 22) (pw_cc 22) (pw_mxl 22) (pw_ret 22) ∈ lw_tbl := pw_tb_3 (List.mem_of_getElem? (i := 127) rfl)
theorem pw_cd_23 : Cond.code (pw_y 23) (pw_cc 23) (pw_mxl 23) (pw_ret 23) ∈ lw_tbl := pw_tb_1 (List.mem_of_getElem? (i := 161) rfl)
theorem pw_cd_24 : Cond.code (pw_y 24) (pw_cc 24) (pw_mxl 24) (pw_ret 24) ∈ lw_tbl := pw_tb_1 (List.mem_of_getElem? (i := 165) rfl)
theorem pw_cd_25 : Cond.code (pw_y 25) (pw_cc 25) (pw_mxl 25) (pw_ret 25) ∈ lw_tbl := pw_tb_0 (List.mem_of_getElem? (i := 105) rfl)
theorem pw_cd_26 : Cond.code (pw_y 26) (pw_cc 26) (pw_mxl 26) (pw_ret 26) ∈ lw_tbl := pw_tb_1 (List.mem_of_getElem? (i := 200) rfl)
theorem pw_cd_27 : Cond.code (pw_y 27) (pw_cc 27) (pw_mxl 27) (pw_ret 27) ∈ lw_tbl := pw_tb_2 (List.mem_of_getElem? (i := 214) rfl)
theorem pw_cd_28 : Cond.code (pw_y 28) (pw_cc 28) (pw_mxl 28) (pw_ret 28) ∈ lw_tbl := pw_tb_3 (List.mem_of_getElem? (i := 211) rfl)
theorem pw_cd_29 : Cond.code (pw_y 29) (pw_cc 29) (pw_mxl 29) (pw_ret 29) ∈ lw_tbl := pw_tb_2 (List.mem_of_getElem? (i := 218) rfl)
theorem pw_cd_30 : Cond.code (pw_y 30) (pw_cc 30) (pw_mxl 30) (pw_ret 30) ∈ lw_tbl := pw_tb_1 (List.mem_of_getElem? (i := 18) rfl)
theorem pw_cd_31 : Cond.code (pw_y 31) (pw_cc 31) (pw_mxl 31) (pw_ret 31) ∈ lw_tbl := pw_tb_1 (List.mem_of_getElem? (i := 185) rfl)
theorem pw_cd_32 : Cond.code (pw_y 32) (pw_cc 32) (pw_mxl 32) (pw_ret 32) ∈ lw_tbl := pw_tb_0 (List.mem_of_getElem? (i := 30) rfl)
theorem pw_cd_33 : Cond.code (pw_y 33) (pw_cc 33) (pw_mxl 33) (pw_ret 33) ∈ lw_tbl := pw_tb_1 (List.mem_of_getElem? (i := 170) rfl)
theorem pw_cd_34 : Cond.code (pw_y 34) (pw_cc 34) (pw_mxl 34) (pw_ret 34) ∈ lw_tbl := pw_tb_2 (List.mem_of_getElem? (i := 10) rfl)
theorem pw_cd_35 : Cond.code (pw_y 35) (pw_cc 35) (pw_mxl 35) (pw_ret 35) ∈ lw_tbl := pw_tb_1 (List.mem_of_getElem? (i := 209) rfl)
theorem pw_cd_36 : Cond.code (pw_y 36) (pw_cc 36) (pw_mxl 36) (pw_ret 36) ∈ lw_tbl := pw_tb_3 (List.mem_of_getElem? (i := 66) rfl)
theorem pw_cd_37 : Cond.code (pw_y 37) (pw_cc 37) (pw_mxl 37) (pw_ret 37) ∈ lw_tbl := pw_tb_3 (List.mem_of_getElem? (i := 33) rfl)
theorem pw_cd_38 : Cond.code (pw_y 38) (pw_cc 38) (pw_mxl 38) (pw_ret 38) ∈ lw_tbl := pw_tb_2 (List.mem_of_getElem? (i := 49) rfl)
theorem pw_cd_39 : Cond.code (pw_y 39) (pw_cc 39) (pw_mxl 39) (pw_ret 39) ∈ lw_tbl := pw_tb_2 (List.mem_of_getElem? (i := 132) rfl)
theorem pw_cd_40 : Cond.code (pw_y 40) (pw_cc 40) (pw_mxl 40) (pw_ret 40) ∈ lw_tbl := pw_tb_2 (List.mem_of_getElem? (i := 194) rfl)
theorem pw_cd_41 : Cond.code (pw_y 41) (pw_cc 41) (pw_mxl 41) (pw_ret 41) ∈ lw_tbl := pw_tb_2 (List.mem_of_getElem? (i := 198) rfl)
theorem pw_cd_42 : Cond.code (pw_y 42) (pw_cc 42) (pw_mxl 42) (pw_ret 42) ∈ lw_tbl := pw_tb_4 (List.mem_of_getElem? (i := 22) rfl)
theorem pw_cd_43 : Cond.code (pw_y 43) (pw_cc 43) (pw_mxl 43) (pw_ret 43) ∈ lw_tbl := pw_tb_4 (List.mem_of_getElem? (i := 18) rfl)
theorem pw_cd_44 : Cond.code (pw_y 44) (pw_cc 44) (pw_mxl 44) (pw_ret 44) ∈ lw_tbl := pw_tb_4 (List.mem_of_getElem? (i := 14) rfl)
theorem pw_cd_45 : Cond.code (pw_y 45) (pw_cc 45) (pw_mxl 45) (pw_ret 45) ∈ lw_tbl := pw_tb_4 (List.mem_of_getElem? (i := 36) rfl)
theorem pw_cd_46 : Cond.code (pw_y 46) (pw_cc 46) (pw_mxl 46) (pw_ret 46) ∈ lw_tbl := pw_tb_3 (List.mem_of_getElem? (i := 228) rfl)
theorem pw_cd_47 : Cond.code (pw_y 47) (pw_cc 47) (pw_mxl 47) (pw_ret 47) ∈ lw_tbl := pw_tb_3 (List.mem_of_getElem? (i := 232) rfl)
theorem pw_cd_48 : Cond.code (pw_y 48) (pw_cc 48) (pw_mxl 48) (pw_ret 48) ∈ lw_tbl := pw_tb_4 (List.mem_of_getElem? (i := 0) rfl)
theorem pw_cd_49 : Cond.code (pw_y 49) (pw_cc 49) (pw_mxl 49) (pw_ret 49) ∈ lw_tbl := pw_tb_4 (List.mem_of_getElem? (i := 199) rfl)
theorem pw_cd_50 : Cond.code (pw_y 50) (pw_cc 50) (pw_mxl 50) (pw_ret 50) ∈ lw_tbl := pw_tb_2 (List.mem_of_getElem? (i := 80) rfl)
theorem pw_cd_51 : Cond.code (pw_y 51) (pw_cc 51) (pw_mxl 51) (pw_ret 51) ∈ lw_tbl := pw_tb_2 (List.mem_of_getElem? (i := 84) rfl)
theorem pw_cd_52 : Cond.code (pw_y 52) (pw_cc 52) (pw_mxl 52) (pw_ret 52) ∈ lw_tbl := pw_tb_2 (List.mem_of_getElem? (i := 68) rfl)
theorem pw_cd_53 : Cond.code (pw_y 53) (pw_cc 53) (pw_mxl 53) (pw_ret 53) ∈ lw_tbl := pw_tb_2 (List.mem_of_getElem? (i := 64) rfl)
theorem pw_cd_54 : Cond.code (pw_y 54) (pw_cc 54) (pw_mxl 54) (pw_ret 54) ∈ lw_tbl := pw_tb_2 (List.mem_of_getElem? (i := 60) rfl)
theorem pw_cd_55 : Cond.code (pw_y 55) (pw_cc 55) (pw_mxl 55) (pw_ret 55) ∈ lw_tbl := pw_tb_2 (List.mem_of_getElem? (i := 36) rfl)
theorem pw_cd_56 : Cond.code (pw_y 56) (pw_cc 56) (pw_mxl 56) (pw_ret 56) ∈ lw_tbl := pw_tb_3 (List.mem_of_getElem? (i := 110) rfl)
theorem pw_cd_57 : Cond.code (pw_y 57) (pw_cc 57) (pw_mxl 57) (pw_ret 57) ∈ lw_tbl := pw_tb_2 (List.mem_of_getElem? (i := 40) rfl)
theorem pw_cd_58 : Cond.code (pw_y 58) (pw_cc 58) (pw_mxl 58) (pw_ret 58) ∈ lw_tbl := pw_tb_2 (List.mem_of_getElem? (i := 45) rfl)
theorem pw_cd_59 : Cond.code (pw_y 59) (pw_cc 59) (pw_mxl 59) (pw_ret 59) ∈ lw_tbl := pw_tb_2 (List.mem_of_getElem? (i := 76) rfl)
theorem pw_cd_60 : Cond.code (pw_y 60) (pw_cc 60) (pw_mxl 60) (pw_ret 60) ∈ lw_tbl := pw_tb_2 (List.mem_of_getElem? (i := 101) rfl)
theorem pw_cd_61 : Cond.code (pw_y 61) (pw_cc 61) (pw_mxl 61) (pw_ret 61) ∈ lw_tbl := pw_tb_2 (List.mem_of_getElem? (i := 105) rfl)
theorem pw_cd_62 : Cond.code (pw_y 62) (pw_cc 62) (pw_mxl 62) (pw_ret 62) ∈ lw_tbl := pw_tb_2 (List.mem_of_getElem? (i := 124) rfl)
theorem pw_cd_63 : Cond.code (pw_y 63) (pw_cc 63) (pw_mxl 63) (pw_ret 63) ∈ lw_tbl := pw_tb_2 (List.mem_of_getElem? (i := 128) rfl)
theorem pw_cd_64 : Cond.code (pw_y 64) (pw_cc 64) (pw_mxl 64) (pw_ret 64) ∈ lw_tbl := pw_tb_2 (List.mem_of_getElem? (i := 136) rfl)
theorem pw_cd_65 : Cond.code (pw_y 65) (pw_cc 65) (pw_mxl 65) (pw_ret 65) ∈ lw_tbl := pw_tb_2 (List.mem_of_getElem? (i := 144) rfl)
theorem pw_cd_66 : Cond.code (pw_y 66) (pw_cc 66) (pw_mxl 66) (pw_ret 66) ∈ lw_tbl := pw_tb_2 (List.mem_of_getElem? (i := 154) rfl)
theorem pw_cd_67 : Cond.code (pw_y 67) (pw_cc 67) (pw_mxl 67) (pw_ret 67) ∈ lw_tbl := pw_tb_2 (List.mem_of_getElem? (i := 173) rfl)
theorem pw_cd_68 : Cond.code (pw_y 68) (pw_cc 68) (pw_mxl 68) (pw_ret 68) ∈ lw_tbl := pw_tb_2 (List.mem_of_getElem? (i := 177) rfl)
theorem pw_cd_69 : Cond.code (pw_y 69) (pw_cc 69) (pw_mxl 69) (pw_ret 69) ∈ lw_tbl := pw_tb_2 (List.mem_of_getElem? (i := 185) rfl)
theorem pw_cd_70 : Cond.code (pw_y 70) (pw_cc 70) (pw_mxl 70) (pw_ret 70) ∈ lw_tbl := pw_tb_2 (List.mem_of_getElem? (i := 222) rfl)
theorem pw_cd_71 : Cond.code (pw_y 71) (pw_cc 71) (pw_mxl 71) (pw_ret 71) ∈ lw_tbl := pw_tb_3 (List.mem_of_getElem? (i := 12) rfl)
theorem pw_cd_72 : Cond.code (pw_y 72) (pw_cc 72) (pw_mxl 72) (pw_ret 72) ∈ lw_tbl := pw_tb_3 (List.mem_of_getElem? (i := 16) rfl)
theorem pw_cd_73 : Cond.code (pw_y 73) (pw_cc 73) (pw_mxl 73) (pw_ret 73) ∈ lw_tbl := pw_tb_3 (List.mem_of_getElem? (i := 149) rfl)
theorem pw_cd_74 : Cond.code (pw_y 74) (pw_cc 74) (pw_mxl 74) (pw_ret 74) ∈ lw_tbl := pw_tb_3 (List.mem_of_getElem? (i := 172) rfl)
theorem pw_cd_75 : Cond.code (pw_y 75) (pw_cc 75) (pw_mxl 75) (pw_ret 75) ∈ lw_tbl := pw_tb_0 (List.mem_of_getElem? (i := 38) rfl)
theorem pw_cd_76 : Cond.code (pw_y 76) (pw_cc 76) (pw_mxl 76) (pw_ret 76) ∈ lw_tbl := pw_tb_1 (List.mem_of_getElem? (i := 190) rfl)
theorem pw_cd_77 : Cond.code (pw_y 77) (pw_cc 77) (pw_mxl 77) (pw_ret 77) ∈ lw_tbl := pw_tb_3 (List.mem_of_getElem? (i := 46) rfl)
theorem pw_cd_78 : Cond.code (pw_y 78) (pw_cc 78) (pw_mxl 78) (pw_ret 78) ∈ lw_tbl := pw_tb_3 (List.mem_of_getElem? (i := 50) rfl)
theorem pw_cd_79 : Cond.code (pw_y 79) (pw_cc 79) (pw_mxl 79) (pw_ret 79) ∈ lw_tbl := pw_tb_2 (List.mem_of_getElem? (i := 93) rfl)
theorem pw_cd_80 : Cond.code (pw_y 80) (pw_cc 80) (pw_mxl 80) (pw_ret 80) ∈ lw_tbl := pw_tb_3 (List.mem_of_getElem? (i := 74) rfl)
theorem pw_cd_81 : Cond.code (pw_y 81) (pw_cc 81) (pw_mxl 81) (pw_ret 81) ∈ lw_tbl := pw_tb_3 (List.mem_of_getElem? (i := 78) rfl)
theorem pw_cd_82 : Cond.code (pw_y 82) (pw_cc 82) (pw_mxl 82) (pw_ret 82) ∈ lw_tbl := pw_tb_3 (List.mem_of_getElem? (i := 106) rfl)
theorem pw_cd_83 : Cond.code (pw_y 83) (pw_cc 83) (pw_mxl 83) (pw_ret 83) ∈ lw_tbl := pw_tb_3 (List.mem_of_getElem? (i := 86) rfl)
theorem pw_cd_84 : Cond.code (pw_y 84) (pw_cc 84) (pw_mxl 84) (pw_ret 84) ∈ lw_tbl := pw_tb_3 (List.mem_of_getElem? (i := 90) rfl)
theorem pw_cd_85 : Cond.code (pw_y 85) (pw_cc 85) (pw_mxl 85) (pw_ret 85) ∈ lw_tbl := pw_tb_0 (List.mem_of_getElem? (i := 166) rfl)
theorem pw_cd_86 : Cond.code (pw_y 86) (pw_cc 86) (pw_mxl 86) (pw_ret 86) ∈ lw_tbl := pw_tb_2 (List.mem_of_getElem? (i := 1) rfl)
theorem pw_cd_87 : Cond.code (pw_y 87) (pw_cc 87) (pw_mxl 87) (pw_ret 87) ∈ lw_tbl := pw_tb_1 (List.mem_of_getElem? (i := 178) rfl)
theorem pw_cd_88 : Cond.code (pw_y 88) (pw_cc 88) (pw_mxl 88) (pw_ret 88) ∈ lw_tbl := pw_tb_2 (List.mem_of_getElem? (i := 231) rfl)
theorem pw_cd_89 : Cond.code (pw_y 89) (pw_cc 89) (pw_mxl 89) (pw_ret 89) ∈ lw_tbl := pw_tb_2 (List.mem_of_getElem? (i := 235) rfl)
theorem pw_cd_90 : Cond.code (pw_y 90) (pw_cc 90) (pw_mxl 90) (pw_ret 90) ∈ lw_tbl := pw_tb_2 (List.mem_of_getElem? (i := 239) rfl)
theorem pw_cd_91 : Cond.code (pw_y 91) (pw_cc 91) (pw_mxl 91) (pw_ret 91) ∈ lw_tbl := pw_tb_3 (List.mem_of_getElem? (i := 3) rfl)
theorem pw_cd_92 : Cond.code (pw_y 92) (pw_cc 92) (pw_mxl 92) (pw_ret 92) ∈ lw_tbl := pw_tb_3 (List.mem_of_getElem? (i := 7) rfl)
theorem pw_cd_93 : Cond.code (pw_y 93) (pw_cc 93) (pw_mxl 93) (pw_ret 93) ∈ lw_tbl := pw_tb_0 (List.mem_of_getElem? (i := 99) rfl)
theorem pw_cd_94 : Cond.code (pw_y 94) (pw_cc 94) (pw_mxl 94) (pw_ret 94) ∈ lw_tbl := pw_tb_1 (List.mem_of_getElem? (i := 195) rfl)
theorem pw_cd_95 : Cond.code (pw_y 95) (pw_cc 95) (pw_mxl 95) (pw_ret 95) ∈ lw_tbl := pw_tb_2 (List.mem_of_getElem? (i := 181) rfl)
theorem pw_cd_96 : Cond.code (pw_y 96) (pw_cc 96) (pw_mxl 96) (pw_ret 96) ∈ lw_tbl := pw_tb_2 (List.mem_of_getElem? (i := 189) rfl)
theorem pw_cd_97 : Cond.code (pw_y 97) (pw_cc 97) (pw_mxl 97) (pw_ret 97) ∈ lw_tbl := pw_tb_2 (List.mem_of_getElem? (i := 202) rfl)
theorem pw_cd_98 : Cond.code (pw_y 98) (pw_cc 98) (pw_mxl 98) (pw_ret 98) ∈ lw_tbl := pw_tb_2 (List.mem_of_getElem? (i := 206) rfl)
theorem pw_cd_99 : Cond.code (pw_y 99) (pw_cc 99) (pw_mxl 99) (pw_ret 99) ∈ lw_tbl := pw_tb_2 (List.mem_of_getElem? (i := 210) rfl)
theorem pw_cd_100 : Cond.code (pw_y 100) (pw_cc 100) (pw_mxl 100) (pw_ret 100) ∈ lw_tbl := pw_tb_0 (List.mem_of_getElem? (i := 22) rfl)
theorem pw_cd_101 : Cond.code (pw_y 101) (pw_cc 101) (pw_mxl 101) (pw_ret 101) ∈ lw_tbl := pw_tb_1 (List.mem_of_getElem? (i := 150) rfl)
theorem pw_cd_102 : Cond.code (pw_y 102) (pw_cc 102) (pw_mxl 102) (pw_ret 102) ∈ lw_tbl := pw_tb_2 (List.mem_of_getElem? (i := 6) rfl)
theorem pw_cd_103 : Cond.code (pw_y 103) (pw_cc 103) (pw_mxl 103) (pw_ret 103) ∈ lw_tbl := pw_tb_2 (List.mem_of_getElem? (i := 17) rfl)
theorem pw_cd_104 : Cond.code (pw_y 104) (pw_cc 104) (pw_mxl 104) (pw_ret 104) ∈ lw_tbl := pw_tb_2 (List.mem_of_getElem? (i := 21) rfl)
theorem pw_cd_105 : Cond.code (pw_y 105) (pw_cc 105) (pw_mxl 105) (pw_ret 105) ∈ lw_tbl := pw_tb_2 (List.mem_of_getElem? (i := 32) rfl)
theorem pw_cd_106 : Cond.code (pw_y 106) (pw_cc 106) (pw_mxl 106) (pw_ret 106) ∈ lw_tbl := pw_tb_3 (List.mem_of_getElem? (i := 21) rfl)
theorem pw_cd_107 : Cond.code (pw_y 107) (pw_cc 107) (pw_mxl 107) (pw_ret 107) ∈ lw_tbl := pw_tb_3 (List.mem_of_getElem? (i := 25) rfl)
theorem pw_cd_108 : Cond.code (pw_y 108) (pw_cc 108) (pw_mxl 108) (pw_ret 108) ∈ lw_tbl := pw_tb_3 (List.mem_of_getElem? (i := 29) rfl)
theorem pw_cd_109 : Cond.code (pw_y 109) (pw_cc 109) (pw_mxl 109) (pw_ret 109) ∈ lw_tbl := pw_tb_3 (List.mem_of_getElem? (i := 37) rfl)
theorem pw_cd_110 : Cond.code (pw_y 110) (pw_cc 110) (pw_mxl 110) (pw_ret 110) ∈ lw_tbl := pw_tb_3 (List.mem_of_getElem? (i := 41) rfl)
theorem pw_cd_111 : Cond.code (pw_y 111) (pw_cc 111) (pw_mxl 111) (pw_ret 111) ∈ lw_tbl := pw_tb_3 (List.mem_of_getElem? (i := 54) rfl)
theorem pw_cd_112 : Cond.code (pw_y 112) (pw_cc 112) (pw_mxl 112) (pw_ret 112) ∈ lw_tbl := pw_tb_3 (List.mem_of_getElem? (i := 58) rfl)
theorem pw_cd_113 : Cond.code (pw_y 113) (pw_cc 113) (pw_mxl 113) (pw_ret 113) ∈ lw_tbl := pw_tb_3 (List.mem_of_getElem? (i := 62) rfl)
theorem pw_cd_114 : Cond.code (pw_y 114) (pw_cc 114) (pw_mxl 114) (pw_ret 114) ∈ lw_tbl := pw_tb_3 (List.mem_of_getElem? (i := 70) rfl)
theorem pw_cd_115 : Cond.code (pw_y 115) (pw_cc 115) (pw_mxl 115) (pw_ret 115) ∈ lw_tbl := pw_tb_3 (List.mem_of_getElem? (i := 82) rfl)
theorem pw_cd_116 : Cond.code (pw_y 116) (pw_cc 116) (pw_mxl 116) (pw_ret 116) ∈ lw_tbl := pw_tb_3 (List.mem_of_getElem? (i := 94) rfl)
theorem pw_cd_117 : Cond.code (pw_y 117) (pw_cc 117) (pw_mxl 117) (pw_ret 117) ∈ lw_tbl := pw_tb_3 (List.mem_of_getElem? (i := 98) rfl)
theorem pw_cd_118 : Cond.code (pw_y 118) (pw_cc 118) (pw_mxl 118) (pw_ret 118) ∈ lw_tbl := pw_tb_3 (List.mem_of_getElem? (i := 102) rfl)
theorem pw_cd_119 : Cond.code (pw_y 119) (pw_cc 119) (pw_mxl 119) (pw_ret 119) ∈ lw_tbl := pw_tb_3 (List.mem_of_getElem? (i := 114) rfl)
theorem pw_cd_120 : Cond.code (pw_y 120) (pw_cc 120) (pw_mxl 120) (pw_ret 120) ∈ lw_tbl := pw_tb_3 (List.mem_of_getElem? (i := 122) rfl)
theorem pw_cd_121 : Cond.code (pw_y 121) (pw_cc 121) (pw_mxl 121) (pw_ret 121) ∈ lw_tbl := pw_tb_3 (List.mem_of_getElem? (i := 131) rfl)
theorem pw_cd_122 : Cond.code (pw_y 122) (pw_cc 122) (pw_mxl 122) (pw_ret 122) ∈ lw_tbl := pw_tb_3 (List.mem_of_getElem? (i := 135) rfl)
theorem pw_cd_123 : Cond.code (pw_y 123) (pw_cc 123) (pw_mxl 123) (pw_ret 123) ∈ lw_tbl := pw_tb_3 (List.mem_of_getElem? (i := 140) rfl)
theorem pw_cd_124 : Cond.code (pw_y 124) (pw_cc 124) (pw_mxl 124) (pw_ret 124) ∈ lw_tbl := pw_tb_3 (List.mem_of_getElem? (i := 145) rfl)
theorem pw_cd_125 : Cond.code (pw_y 125) (pw_cc 125) (pw_mxl 125) (pw_ret 125) ∈ lw_tbl := pw_tb_3 (List.mem_of_getElem? (i := 163) rfl)
theorem pw_cd_126 : Cond.code (pw_y 126) (pw_cc 126) (pw_mxl 126) (pw_ret 126) ∈ lw_tbl := pw_tb_3 (List.mem_of_getElem? (i := 167) rfl)
theorem pw_cd_127 : Cond.code (pw_y 127) (pw_cc 127) (pw_mxl 127) (pw_ret 127) ∈ lw_tbl := pw_tb_3 (List.mem_of_getElem? (i := 176) rfl)
theorem pw_cd_128 : Cond.code (pw_y 128) (pw_cc 128) (pw_mxl 128) (pw_ret 128) ∈ lw_tbl := pw_tb_3 (List.mem_of_getElem? (i := 180) rfl)
theorem pw_cd_129 : Cond.code (pw_y 129) (pw_cc 129) (pw_mxl 129) (pw_ret 129) ∈ lw_tbl := pw_tb_3 (List.mem_of_getElem? (i := 184) rfl)
theorem pw_cd_130 : Cond.code (pw_y 130) (pw_cc 130) (pw_mxl 130) (pw_ret 130) ∈ lw_tbl := pw_tb_3 (List.mem_of_getElem? (i := 188) rfl)
theorem pw_cd_131 : Cond.code (pw_y 131) (pw_cc 131) (pw_mxl 131) (pw_ret 131) ∈ lw_tbl := pw_tb_3 (List.mem_of_getElem? (i := 192) rfl)
theorem pw_cd_132 : Cond.code (pw_y 132) (pw_cc 132) (pw_mxl 132) (pw_ret 132) ∈ lw_tbl := pw_tb_3 (List.mem_of_getElem? (i := 201) rfl)
theorem pw_cd_133 : Cond.code (pw_y 133) (pw_cc 133) (pw_mxl 133) (pw_ret 133) ∈ lw_tbl := pw_tb_3 (List.mem_of_getElem? (i := 207) rfl)
theorem pw_cd_134 : Cond.code (pw_y 134) (pw_cc 134) (pw_mxl 134) (pw_ret 134) ∈ lw_tbl := pw_tb_3 (List.mem_of_getElem? (i := 216) rfl)
theorem pw_cd_135 : Cond.code (pw_y 135) (pw_cc 135) (pw_mxl 135) (pw_ret 135) ∈ lw_tbl := pw_tb_3 (List.mem_of_getElem? (i := 220) rfl)
theorem pw_cd_136 : Cond.code (pw_y 136) (pw_cc 136) (pw_mxl 136) (pw_ret 136) ∈ lw_tbl := pw_tb_3 (List.mem_of_getElem? (i := 224) rfl)
theorem pw_cd_137 : Cond.code (pw_y 137) (pw_cc 137) (pw_mxl 137) (pw_ret 137) ∈ lw_tbl := pw_tb_3 (List.mem_of_getElem? (i := 236) rfl)
theorem pw_cd_138 : Cond.code (pw_y 138) (pw_cc 138) (pw_mxl 138) (pw_ret 138) ∈ lw_tbl := pw_tb_4 (List.mem_of_getElem? (i := 5) rfl)
theorem pw_cd_139 : Cond.code (pw_y 139) (pw_cc 139) (pw_mxl 139) (pw_ret 139) ∈ lw_tbl := pw_tb_4 (List.mem_of_getElem? (i := 10) rfl)
theorem pw_cd_140 : Cond.code (pw_y 140) (pw_cc 140) (pw_mxl 140) (pw_ret 140) ∈ lw_tbl := pw_tb_4 (List.mem_of_getElem? (i := 27) rfl)
theorem pw_cd_141 : Cond.code (pw_y 141) (pw_cc 141) (pw_mxl 141) (pw_ret 141) ∈ lw_tbl := pw_tb_4 (List.mem_of_getElem? (i := 31) rfl)
theorem pw_cd_142 : Cond.code (pw_y 142) (pw_cc 142) (pw_mxl 142) (pw_ret 142) ∈ lw_tbl := pw_tb_4 (List.mem_of_getElem? (i := 46) rfl)
theorem pw_cd_143 : Cond.code (pw_y 143) (pw_cc 143) (pw_mxl 143) (pw_ret 143) ∈ lw_tbl := pw_tb_4 (List.mem_of_getElem? (i := 66) rfl)
theorem pw_cd_144 : Cond.code (pw_y 144) (pw_cc 144) (pw_mxl 144) (pw_ret 144) ∈ lw_tbl := pw_tb_4 (List.mem_of_getElem? (i := 71) rfl)
theorem pw_cd_145 : Cond.code (pw_y 145) (pw_cc 145) (pw_mxl 145) (pw_ret 145) ∈ lw_tbl := pw_tb_4 (List.mem_of_getElem? (i := 76) rfl)
theorem pw_cd_146 : Cond.code (pw_y 146) (pw_cc 146) (pw_mxl 146) (pw_ret 146) ∈ lw_tbl := pw_tb_4 (List.mem_of_getElem? (i := 80) rfl)
theorem pw_cd_147 : Cond.code (pw_y 147) (pw_cc 147) (pw_mxl 147) (pw_ret 147) ∈ lw_tbl := pw_tb_4 (List.mem_of_getElem? (i := 84) rfl)
theorem pw_cd_148 : Cond.code (pw_y 148) (pw_cc 148) (pw_mxl 148) (pw_ret 148) ∈ lw_tbl := pw_tb_4 (List.mem_of_getElem? (i := 89) rfl)
theorem pw_cd_149 : Cond.code (pw_y 149) (pw_cc 149) (pw_mxl 149) (pw_ret 149) ∈ lw_tbl := pw_tb_4 (List.mem_of_getElem? (i := 94) rfl)
theorem pw_cd_150 : Cond.code (pw_y 150) (pw_cc 150) (pw_mxl 150) (pw_ret 150) ∈ lw_tbl := pw_tb_4 (List.mem_of_getElem? (i := 99) rfl)
theorem pw_cd_151 : Cond.code (pw_y 151) (pw_cc 151) (pw_mxl 151) (pw_ret 151) ∈ lw_tbl := pw_tb_4 (List.mem_of_getElem? (i := 103) rfl)
theorem pw_cd_152 : Cond.code (pw_y 152) (pw_cc 152) (pw_mxl 152) (pw_ret 152) ∈ lw_tbl := pw_tb_4 (List.mem_of_getElem? (i := 107) rfl)
theorem pw_cd_153 : Cond.code (pw_y 153) (pw_cc 153) (pw_mxl 153) (pw_ret 153) ∈ lw_tbl := pw_tb_4 (List.mem_of_getElem? (i := 111) rfl)
theorem pw_cd_154 : Cond.code (pw_y 154) (pw_cc 154) (pw_mxl 154) (pw_ret 154) ∈ lw_tbl := pw_tb_4 (List.mem_of_getElem? (i := 115) rfl)
theorem pw_cd_155 : Cond.code (pw_y 155) (pw_cc 155) (pw_mxl 155) (pw_ret 155) ∈ lw_tbl := pw_tb_4 (List.mem_of_getElem? (i := 119) rfl)
theorem pw_cd_156 : Cond.code (pw_y 156) (pw_cc 156) (pw_mxl 156) (pw_ret 156) ∈ lw_tbl := pw_tb_4 (List.mem_of_getElem? (i := 123) rfl)
theorem pw_cd_157 : Cond.code (pw_y 157) (pw_cc 157) (pw_mxl 157) (pw_ret 157) ∈ lw_tbl := pw_tb_4 (List.mem_of_getElem? (i := 134) rfl)
theorem pw_cd_158 : Cond.code (pw_y 158) (pw_cc 158) (pw_mxl 158) (pw_ret 158) ∈ lw_tbl := pw_tb_4 (List.mem_of_getElem? (i := 143) rfl)
theorem pw_cd_159 : Cond.code (pw_y 159) (pw_cc 159) (pw_mxl 159) (pw_ret 159) ∈ lw_tbl := pw_tb_4 (List.mem_of_getElem? (i := 147) rfl)
theorem pw_cd_160 : Cond.code (pw_y 160) (pw_cc 160) (pw_mxl 160) (pw_ret 160) ∈ lw_tbl := pw_tb_4 (List.mem_of_getElem? (i := 151) rfl)
theorem pw_cd_161 : Cond.code (pw_y 161) (pw_cc 161) (pw_mxl 161) (pw_ret 161) ∈ lw_tbl := pw_tb_4 (List.mem_of_getElem? (i := 155) rfl)
theorem pw_cd_162 : Cond.code (pw_y 162) (pw_cc 162) (pw_mxl 162) (pw_ret 162) ∈ lw_tbl := pw_tb_4 (List.mem_of_getElem? (i := 159) rfl)
theorem pw_cd_163 : Cond.code (pw_y 163) (pw_cc 163) (pw_mxl 163) (pw_ret 163) ∈ lw_tbl := pw_tb_4 (List.mem_of_getElem? (i := 164) rfl)
theorem pw_cd_164 : Cond.code (pw_y 164) (pw_cc 164) (pw_mxl 164) (pw_ret 164) ∈ lw_tbl := pw_tb_4 (List.mem_of_getElem? (i := 175) rfl)
theorem pw_cd_165 : Cond.code (pw_y 165) (pw_cc 165) (pw_mxl 165) (pw_ret 165) ∈ lw_tbl := pw_tb_4 (List.mem_of_getElem? (i := 183) rfl)
theorem pw_cd_166 : Cond.code (pw_y 166) (pw_cc 166) (pw_mxl 166) (pw_ret 166) ∈ lw_tbl := pw_tb_4 (List.mem_of_getElem? (i := 191) rfl)
theorem pw_cd_167 : Cond.code (pw_y 167) (pw_cc 167) (pw_mxl 167) (pw_ret 167) ∈ lw_tbl := pw_tb_4 (List.mem_of_getElem? (i := 195) rfl)
theorem pw_cd_168 : Cond.code (pw_y 168) (pw_cc 168) (pw_mxl 168) (pw_ret 168) ∈ lw_tbl := pw_tb_4 (List.mem_of_getElem? (i := 203) rfl)
theorem pw_cd_169 : Cond.code (pw_y 169) (pw_cc 169) (pw_mxl 169) (pw_ret 169) ∈ lw_tbl := pw_tb_4 (List.mem_of_getElem? (i := 187) rfl)
theorem pw_cd_170 : Cond.code (pw_y 170) (pw_cc 170) (pw_mxl 170) (pw_ret 170) ∈ lw_tbl := pw_tb_4 (List.mem_of_getElem? (i := 179) rfl)
theorem pw_cd_171 : Cond.code (pw_y 171) (pw_cc 171) (pw_mxl 171) (pw_ret 171) ∈ lw_tbl := pw_tb_4 (List.mem_of_getElem? (i := 50) rfl)
theorem pw_cd_172 : Cond.code (pw_y 172) (pw_cc 172) (pw_mxl 172) (pw_ret 172) ∈ lw_tbl := pw_tb_4 (List.mem_of_getElem? (i := 58) rfl)
theorem pw_cd_173 : Cond.code (pw_y 173) (pw_cc 173) (pw_mxl 173) (pw_ret 173) ∈ lw_tbl := pw_tb_1 (List.mem_of_getElem? (i := 153) rfl)
theorem pw_cd_174 : Cond.code (pw_y 174) (pw_cc 174) (pw_mxl 174) (pw_ret 174) ∈ lw_tbl := pw_tb_2 (List.mem_of_getElem? (i := 24) rfl)
theorem pw_cd_175 : Cond.code (pw_y 175) (pw_cc 175) (pw_mxl 175) (pw_ret 175) ∈ lw_tbl := pw_tb_1 (List.mem_of_getElem? (i := 227) rfl)
theorem pw_cd_176 : Cond.code (pw_y 176) (pw_cc 176) (pw_mxl 176) (pw_ret 176) ∈ lw_tbl := pw_tb_1 (List.mem_of_getElem? (i := 216) rfl)
theorem pw_cd_177 : Cond.code (pw_y 177) (pw_cc 177) (pw_mxl 177) (pw_ret 177) ∈ lw_tbl := pw_tb_1 (List.mem_of_getElem? (i := 230) rfl)
theorem pw_cd_178 : Cond.code (pw_y 178) (pw_cc 178) (pw_mxl 178) (pw_ret 178) ∈ lw_tbl := pw_tb_1 (List.mem_of_getElem? (i := 234) rfl)
theorem pw_cd_179 : Cond.code (pw_y 179) (pw_cc 179) (pw_mxl 179) (pw_ret 179) ∈ lw_tbl := pw_tb_2 (List.mem_of_getElem? (i := 166) rfl)
theorem pw_cd_180 : Cond.code (pw_y 180) (pw_cc 180) (pw_mxl 180) (pw_ret 180) ∈ lw_tbl := pw_tb_4 (List.mem_of_getElem? (i := 167) rfl)
theorem pw_cd_181 : Cond.code (pw_y 181) (pw_cc 181) (pw_mxl 181) (pw_ret 181) ∈ lw_tbl := pw_tb_4 (List.mem_of_getElem? (i := 128) rfl)
theorem pw_cd_182 : Cond.code (pw_y 182) (pw_cc 182) (pw_mxl 182) (pw_ret 182) ∈ lw_tbl := pw_tb_4 (List.mem_of_getElem? (i := 138) rfl)
theorem pw_cd_183 : Cond.code (pw_y 183) (pw_cc 183) (pw_mxl 183) (pw_ret 183) ∈ lw_tbl := pw_tb_4 (List.mem_of_getElem? (i := 208) rfl)
theorem pw_cd_184 : Cond.code (pw_y 184) (pw_cc 184) (pw_mxl 184) (pw_ret 184) ∈ lw_tbl := pw_tb_4 (List.mem_of_getElem? (i := 219) rfl)
theorem pw_cd_185 : Cond.code (pw_y 185) (pw_cc 185) (pw_mxl 185) (pw_ret 185) ∈ lw_tbl := pw_tb_5 (List.mem_of_getElem? (i := 24) rfl)
theorem pw_cd_186 : Cond.code (pw_y 186) (pw_cc 186) (pw_mxl 186) (pw_ret 186) ∈ lw_tbl := pw_tb_5 (List.mem_of_getElem? (i := 146) rfl)
theorem pw_cd_187 : Cond.code (pw_y 187) (pw_cc 187) (pw_mxl 187) (pw_ret 187) ∈ lw_tbl := pw_tb_5 (List.mem_of_getElem? (i := 143) rfl)
theorem pw_cd_188 : Cond.code (pw_y 188) (pw_cc 188) (pw_mxl 188) (pw_ret 188) ∈ lw_tbl := pw_tb_5 (List.mem_of_getElem? (i := 169) rfl)
theorem pw_cd_189 : Cond.code (pw_y 189) (pw_cc 189) (pw_mxl 189) (pw_ret 189) ∈ lw_tbl := pw_tb_5 (List.mem_of_getElem? (i := 128) rfl)
theorem pw_cd_190 : Cond.code (pw_y 190) (pw_cc 190) (pw_mxl 190) (pw_ret 190) ∈ lw_tbl := pw_tb_5 (List.mem_of_getElem? (i := 125) rfl)
theorem pw_cd_191 : Cond.code (pw_y 191) (pw_cc 191) (pw_mxl 191) (pw_ret 191) ∈ lw_tbl := pw_tb_4 (List.mem_of_getElem? (i := 216) rfl)
theorem pw_cd_192 : Cond.code (pw_y 192) (pw_cc 192) (pw_mxl 192) (pw_ret 192) ∈ lw_tbl := pw_tb_5 (List.mem_of_getElem? (i := 66) rfl)
theorem pw_cd_193 : Cond.code (pw_y 193) (pw_cc 193) (pw_mxl 193) (pw_ret 193) ∈ lw_tbl := pw_tb_5 (List.mem_of_getElem? (i := 41) rfl)
theorem pw_cd_194 : Cond.code (pw_y 194) (pw_cc 194) (pw_mxl 194) (pw_ret 194) ∈ lw_tbl := pw_tb_5 (List.mem_of_getElem? (i := 32) rfl)
theorem pw_cd_195 : Cond.code (pw_y 195) (pw_cc 195) (pw_mxl 195) (pw_ret 195) ∈ lw_tbl := pw_tb_5 (List.mem_of_getElem? (i := 58) rfl)
theorem pw_cd_196 : Cond.code (pw_y 196) (pw_cc 196) (pw_mxl 196) (pw_ret 196) ∈ lw_tbl := pw_tb_5 (List.mem_of_getElem? (i := 53) rfl)
theorem pw_cd_197 : Cond.code (pw_y 197) (pw_cc 197) (pw_mxl 197) (pw_ret 197) ∈ lw_tbl := pw_tb_5 (List.mem_of_getElem? (i := 49) rfl)
theorem pw_cd_198 : Cond.code (pw_y 198) (pw_cc 198) (pw_mxl 198) (pw_ret 198) ∈ lw_tbl := pw_tb_5 (List.mem_of_getElem? (i := 110) rfl)
theorem pw_cd_199 : Cond.code (pw_y 199) (pw_cc 199) (pw_mxl 199) (pw_ret 199) ∈ lw_tbl := pw_tb_5 (List.mem_of_getElem? (i := 36) rfl)
theorem pw_cd_200 : Cond.code (pw_y 200) (pw_cc 200) (pw_mxl 200) (pw_ret 200) ∈ lw_tbl := pw_tb_5 (List.mem_of_getElem? (i := 106) rfl)
theorem pw_cd_201 : Cond.code (pw_y 201) (pw_cc 201) (pw_mxl 201) (pw_ret 201) ∈ lw_tbl := pw_tb_5 (List.mem_of_getElem? (i := 201) rfl)
theorem pw_cd_202 : Cond.code (pw_y 202) (pw_cc 202) (pw_mxl 202) (pw_ret 202) ∈ lw_tbl := pw_tb_5 (List.mem_of_getElem? (i := 102) rfl)
theorem pw_cd_203 : Cond.code (pw_y 203) (pw_cc 203) (pw_mxl 203) (pw_ret 203) ∈ lw_tbl := pw_tb_5 (List.mem_of_getElem? (i := 213) rfl)
theorem pw_cd_204 : Cond.code (pw_y 204) (pw_cc 204) (pw_mxl 204) (pw_ret 204) ∈ lw_tbl := pw_tb_5 (List.mem_of_getElem? (i := 185) rfl)
theorem pw_cd_205 : Cond.code (pw_y 205) (pw_cc 205) (pw_mxl 205) (pw_ret 205) ∈ lw_tbl := pw_tb_5 (List.mem_of_getElem? (i := 233) rfl)
theorem pw_cd_206 : Cond.code (pw_y 206) (pw_cc 206) (pw_mxl 206) (pw_ret 206) ∈ lw_tbl := pw_tb_5 (List.mem_of_getElem? (i := 122) rfl)
theorem pw_cd_207 : Cond.code (pw_y 207) (pw_cc 207) (pw_mxl 207) (pw_ret 207) ∈ lw_tbl := pw_tb_5 (List.mem_of_getElem? (i := 118) rfl)
theorem pw_cd_208 : Cond.code (pw_y 208) (pw_cc 208) (pw_mxl 208) (pw_ret 208) ∈ lw_tbl := pw_tb_5 (List.mem_of_getElem? (i := 114) rfl)
theorem pw_cd_209 : Cond.code (pw_y 209) (pw_cc 209) (pw_mxl 209) (pw_ret 209) ∈ lw_tbl := pw_tb_5 (List.mem_of_getElem? (i := 140) rfl)
theorem pw_cd_210 : Cond.code (pw_y 210) (pw_cc 210) (pw_mxl 210) (pw_ret 210) ∈ lw_tbl := pw_tb_5 (List.mem_of_getElem? (i := 136) rfl)
theorem pw_cd_211 : Cond.code (pw_y 211) (pw_cc 211) (pw_mxl 211) (pw_ret 211) ∈ lw_tbl := pw_tb_5 (List.mem_of_getElem? (i := 98) rfl)
theorem pw_cd_212 : Cond.code (pw_y 212) (pw_cc 212) (pw_mxl 212) (pw_ret 212) ∈ lw_tbl := pw_tb_5 (List.mem_of_getElem? (i := 150) rfl)
theorem pw_cd_213 : Cond.code (pw_y 213) (pw_cc 213) (pw_mxl 213) (pw_ret 213) ∈ lw_tbl := pw_tb_5 (List.mem_of_getElem? (i := 132) rfl)
theorem pw_cd_214 : Cond.code (pw_y 214) (pw_cc 214) (pw_mxl 214) (pw_ret 214) ∈ lw_tbl := pw_tb_5 (List.mem_of_getElem? (i := 173) rfl)
theorem pw_cd_215 : Cond.code (pw_y 215) (pw_cc 215) (pw_mxl 215) (pw_ret 215) ∈ lw_tbl := pw_tb_5 (List.mem_of_getElem? (i := 158) rfl)
theorem pw_cd_216 : Cond.code (pw_y 216) (pw_cc 216) (pw_mxl 216) (pw_ret 216) ∈ lw_tbl := pw_tb_5 (List.mem_of_getElem? (i := 162) rfl)
theorem pw_cd_217 : Cond.code (pw_y 217) (pw_cc 217) (pw_mxl 217) (pw_ret 217) ∈ lw_tbl := pw_tb_5 (List.mem_of_getElem? (i := 166) rfl)
theorem pw_cd_218 : Cond.code (pw_y 218) (pw_cc 218) (pw_mxl 218) (pw_ret 218) ∈ lw_tbl := pw_tb_5 (List.mem_of_getElem? (i := 154) rfl)
theorem pw_cd_219 : Cond.code (pw_y 219) (pw_cc 219) (pw_mxl 219) (pw_ret 219) ∈ lw_tbl := pw_tb_5 (List.mem_of_getElem? (i := 189) rfl)
theorem pw_cd_220 : Cond.code (pw_y 220) (pw_cc 220) (pw_mxl 220) (pw_ret 220) ∈ lw_tbl := pw_tb_5 (List.mem_of_getElem? (i := 181) rfl)
theorem pw_cd_221 : Cond.code (pw_y 221) (pw_cc 221) (pw_mxl 221) (pw_ret 221) ∈ lw_tbl := pw_tb_5 (List.mem_of_getElem? (i := 193) rfl)
theorem pw_cd_222 : Cond.code (pw_y 222) (pw_cc 222) (pw_mxl 222) (pw_ret 222) ∈ lw_tbl := pw_tb_5 (List.mem_of_getElem? (i := 177) rfl)
theorem pw_cd_223 : Cond.code (pw_y 223) (pw_cc 223) (pw_mxl 223) (pw_ret 223) ∈ lw_tbl := pw_tb_5 (List.mem_of_getElem? (i := 209) rfl)
theorem pw_cd_224 : Cond.code (pw_y 224) (pw_cc 224) (pw_mxl 224) (pw_ret 224) ∈ lw_tbl := pw_tb_5 (List.mem_of_getElem? (i := 205) rfl)
theorem pw_cd_225 : Cond.code (pw_y 225) (pw_cc 225) (pw_mxl 225) (pw_ret 225) ∈ lw_tbl := pw_tb_5 (List.mem_of_getElem? (i := 197) rfl)
theorem pw_cd_226 : Cond.code (pw_y 226) (pw_cc 226) (pw_mxl 226) (pw_ret 226) ∈ lw_tbl := pw_tb_5 (List.mem_of_getElem? (i := 217) rfl)
theorem pw_cd_227 : Cond.code (pw_y 227) (pw_cc 227) (pw_mxl 227) (pw_ret 227) ∈ lw_tbl := pw_tb_5 (List.mem_of_getElem? (i := 225) rfl)
theorem pw_cd_228 : Cond.code (pw_y 228) (pw_cc 228) (pw_mxl 228) (pw_ret 228) ∈ lw_tbl := pw_tb_5 (List.mem_of_getElem? (i := 229) rfl)
theorem pw_cd_229 : Cond.code (pw_y 229) (pw_cc 229) (pw_mxl 229) (pw_ret 229) ∈ lw_tbl := pw_tb_5 (List.mem_of_getElem? (i := 237) rfl)
theorem pw_cd_230 : Cond.code (pw_y 230) (pw_cc 230) (pw_mxl 230) (pw_ret 230) ∈ lw_tbl := pw_tb_5 (List.mem_of_getElem? (i := 221) rfl)
theorem pw_cd_231 : Cond.code (pw_y 231) (pw_cc 231) (pw_mxl 231) (pw_ret 231) ∈ lw_tbl := pw_tb_6 (List.mem_of_getElem? (i := 9) rfl)
theorem pw_cd_232 : Cond.code (pw_y 232) (pw_cc 232) (pw_mxl 232) (pw_ret 232) ∈ lw_tbl := pw_tb_6 (List.mem_of_getElem? (i := 13) rfl)
theorem pw_cd_233 : Cond.code (pw_y 233) (pw_cc 233) (pw_mxl 233) (pw_ret 233) ∈ lw_tbl := pw_tb_6 (List.mem_of_getElem? (i := 5) rfl)
theorem pw_cd_234 : Cond.code (pw_y 234) (pw_cc 234) (pw_mxl 234) (pw_ret 234) ∈ lw_tbl := pw_tb_6 (List.mem_of_getElem? (i := 17) rfl)
theorem pw_cd_235 : Cond.code (pw_y 235) (pw_cc 235) (pw_mxl 235) (pw_ret 235) ∈ lw_tbl := pw_tb_6 (List.mem_of_getElem? (i := 1) rfl)
theorem pw_cd_236 : Cond.code (pw_y 236) (pw_cc 236) (pw_mxl 236) (pw_ret 236) ∈ lw_tbl := pw_tb_6 (List.mem_of_getElem? (i := 21) rfl)
theorem pw_cd_237 : Cond.code (pw_y 237) (pw_cc 237) (pw_mxl 237) (pw_ret 237) ∈ lw_tbl := pw_tb_5 (List.mem_of_getElem? (i := 94) rfl)
theorem pw_cd_238 : Cond.code (pw_y 238) (pw_cc 238) (pw_mxl 238) (pw_ret 238) ∈ lw_tbl := pw_tb_7 (List.mem_of_getElem? (i := 49) rfl)
theorem pw_cd_239 : Cond.code (pw_y 239) (pw_cc 239) (pw_mxl 239) (pw_ret 239) ∈ lw_tbl := pw_tb_7 (List.mem_of_getElem? (i := 53) rfl)
theorem pw_cd_240 : Cond.code (pw_y 240) (pw_cc 240) (pw_mxl 240) (pw_ret 240) ∈ lw_tbl := pw_tb_5 (List.mem_of_getElem? (i := 17) rfl)
theorem pw_cd_241 : Cond.code (pw_y 241) (pw_cc 241) (pw_mxl 241) (pw_ret 241) ∈ lw_tbl := pw_tb_5 (List.mem_of_getElem? (i := 28) rfl)
theorem pw_cd_242 : Cond.code (pw_y 242) (pw_cc 242) (pw_mxl 242) (pw_ret 242) ∈ lw_tbl := pw_tb_5 (List.mem_of_getElem? (i := 14) rfl)
theorem pw_cd_243 : Cond.code (pw_y 243) (pw_cc 243) (pw_mxl 243) (pw_ret 243) ∈ lw_tbl := pw_tb_5 (List.mem_of_getElem? (i := 21) rfl)
theorem pw_cd_244 : Cond.code (pw_y 244) (pw_cc 244) (pw_mxl 244) (pw_ret 244) ∈ lw_tbl := pw_tb_5 (List.mem_of_getElem? (i := 62) rfl)
theorem pw_cd_245 : Cond.code (pw_y 245) (pw_cc 245) (pw_mxl 245) (pw_ret 245) ∈ lw_tbl := pw_tb_5 (List.mem_of_getElem? (i := 70) rfl)
theorem pw_cd_246 : Cond.code (pw_y 246) (pw_cc 246) (pw_mxl 246) (pw_ret 246) ∈ lw_tbl := pw_tb_5 (List.mem_of_getElem? (i := 78) rfl)
theorem pw_cd_247 : Cond.code (pw_y 247) (pw_cc 247) (pw_mxl 247) (pw_ret 247) ∈ lw_tbl := pw_tb_5 (List.mem_of_getElem? (i := 74) rfl)
theorem pw_cd_248 : Cond.code (pw_y 248) (pw_cc 248) (pw_mxl 248) (pw_ret 248) ∈ lw_tbl := pw_tb_5 (List.mem_of_getElem? (i := 90) rfl)
theorem pw_cd_249 : Cond.code (pw_y 249) (pw_cc 249) (pw_mxl 249) (pw_ret 249) ∈ lw_tbl := pw_tb_5 (List.mem_of_getElem? (i := 86) rfl)
theorem pw_cd_250 : Cond.code (pw_y 250) (pw_cc 250) (pw_mxl 250) (pw_ret 250) ∈ lw_tbl := pw_tb_5 (List.mem_of_getElem? (i := 82) rfl)
theorem pw_cd_251 : Cond.code (pw_y 251) (pw_cc 251) (pw_mxl 251) (pw_ret 251) ∈ lw_tbl := pw_tb_6 (List.mem_of_getElem? (i := 30) rfl)
theorem pw_cd_252 : Cond.code (pw_y 252) (pw_cc 252) (pw_mxl 252) (pw_ret 252) ∈ lw_tbl := pw_tb_6 (List.mem_of_getElem? (i := 34) rfl)
theorem pw_cd_253 : Cond.code (pw_y 253) (pw_cc 253) (pw_mxl 253) (pw_ret 253) ∈ lw_tbl := pw_tb_6 (List.mem_of_getElem? (i := 38) rfl)
theorem pw_cd_254 : Cond.code (pw_y 254) (pw_cc 254) (pw_mxl 254) (pw_ret 254) ∈ lw_tbl := pw_tb_6 (List.mem_of_getElem? (i := 42) rfl)
theorem pw_cd_255 : Cond.code (pw_y 255) (pw_cc 255) (pw_mxl 255) (pw_ret 255) ∈ lw_tbl := pw_tb_6 (List.mem_of_getElem? (i := 47) rfl)
theorem pw_cd_256 : Cond.code (pw_y 256) (pw_cc 256) (pw_mxl 256) (pw_ret 256) ∈ lw_tbl := pw_tb_6 (List.mem_of_getElem? (i := 51) rfl)
theorem pw_cd_257 : Cond.code (pw_y 257) (pw_cc 257) (pw_mxl 257) (pw_ret 257) ∈ lw_tbl := pw_tb_6 (List.mem_of_getElem? (i := 55) rfl)
theorem pw_cd_258 : Cond.code (pw_y 258) (pw_cc 258) (pw_mxl 258) (pw_ret 258) ∈ lw_tbl := pw_tb_6 (List.mem_of_getElem? (i := 59) rfl)
theorem pw_cd_259 : Cond.code (pw_y 259) (pw_cc 259) (pw_mxl 259) (pw_ret 259) ∈ lw_tbl := pw_tb_6 (List.mem_of_getElem? (i := 63) rfl)
theorem pw_cd_260 : Cond.code (pw_y 260) (pw_cc 260) (pw_mxl 260) (pw_ret 260) ∈ lw_tbl := pw_tb_6 (List.mem_of_getElem? (i := 67) rfl)
theorem pw_cd_261 : Cond.code (pw_y 261) (pw_cc 261) (pw_mxl 261) (pw_ret 261) ∈ lw_tbl := pw_tb_6 (List.mem_of_getElem? (i := 71) rfl)
theorem pw_cd_262 : Cond.code (pw_y 262) (pw_cc 262) (pw_mxl 262) (pw_ret 262) ∈ lw_tbl := pw_tb_6 (List.mem_of_getElem? (i := 79) rfl)
theorem pw_cd_263 : Cond.code (pw_y 263) (pw_cc 263) (pw_mxl 263) (pw_ret 263) ∈ lw_tbl := pw_tb_6 (List.mem_of_getElem? (i := 75) rfl)
theorem pw_cd_264 : Cond.code (pw_y 264) (pw_cc 264) (pw_mxl 264) (pw_ret 264) ∈ lw_tbl := pw_tb_6 (List.mem_of_getElem? (i := 83) rfl)
theorem pw_cd_265 : Cond.code (pw_y 265) (pw_cc 265) (pw_mxl 265) (pw_ret 265) ∈ lw_tbl := pw_tb_6 (List.mem_of_getElem? (i := 91) rfl)
theorem pw_cd_266 : Cond.code (pw_y 266) (pw_cc 266) (pw_mxl 266) (pw_ret 266) ∈ lw_tbl := pw_tb_6 (List.mem_of_getElem? (i := 95) rfl)
theorem pw_cd_267 : Cond.code (pw_y 267) (pw_cc 267) (pw_mxl 267) (pw_ret 267) ∈ lw_tbl := pw_tb_6 (List.mem_of_getElem? (i := 87) rfl)
theorem pw_cd_268 : Cond.code (pw_y 268) (pw_cc 268) (pw_mxl 268) (pw_ret 268) ∈ lw_tbl := pw_tb_6 (List.mem_of_getElem? (i := 25) rfl)
theorem pw_cd_269 : Cond.code (pw_y 269) (pw_cc 269) (pw_mxl 269) (pw_ret 269) ∈ lw_tbl := pw_tb_6 (List.mem_of_getElem? (i := 100) rfl)
theorem pw_cd_270 : Cond.code (pw_y 270) (pw_cc 270) (pw_mxl 270) (pw_ret 270) ∈ lw_tbl := pw_tb_6 (List.mem_of_getElem? (i := 108) rfl)
theorem pw_cd_271 : Cond.code (pw_y 271) (pw_cc 271) (pw_mxl 271) (pw_ret 271) ∈ lw_tbl := pw_tb_6 (List.mem_of_getElem? (i := 104) rfl)
theorem pw_cd_272 : Cond.code (pw_y 272) (pw_cc 272) (pw_mxl 272) (pw_ret 272) ∈ lw_tbl := pw_tb_6 (List.mem_of_getElem? (i := 112) rfl)
theorem pw_cd_273 : Cond.code (pw_y 273) (pw_cc 273) (pw_mxl 273) (pw_ret 273) ∈ lw_tbl := pw_tb_6 (List.mem_of_getElem? (i := 116) rfl)
theorem pw_cd_274 : Cond.code (pw_y 274) (pw_cc 274) (pw_mxl 274) (pw_ret 274) ∈ lw_tbl := pw_tb_6 (List.mem_of_getElem? (i := 120) rfl)
theorem pw_cd_275 : Cond.code (pw_y 275) (pw_cc 275) (pw_mxl 275) (pw_ret 275) ∈ lw_tbl := pw_tb_6 (List.mem_of_getElem? (i := 124) rfl)
theorem pw_cd_276 : Cond.code (pw_y 276) (pw_cc 276) (pw_mxl 276) (pw_ret 276) ∈ lw_tbl := pw_tb_6 (List.mem_of_getElem? (i := 128) rfl)
theorem pw_cd_277 : Cond.code (pw_y 277) (pw_cc 277) (pw_mxl 277) (pw_ret 277) ∈ lw_tbl := pw_tb_6 (List.mem_of_getElem? (i := 132) rfl)
theorem pw_cd_278 : Cond.code (pw_y 278) (pw_cc 278) (pw_mxl 278) (pw_ret 278) ∈ lw_tbl := pw_tb_6 (List.mem_of_getElem? (i := 136) rfl)
theorem pw_cd_279 : Cond.code (pw_y 279) (pw_cc 279) (pw_mxl 279) (pw_ret 279) ∈ lw_tbl := pw_tb_6 (List.mem_of_getElem? (i := 140) rfl)
theorem pw_cd_280 : Cond.code (pw_y 280) (pw_cc 280) (pw_mxl 280) (pw_ret 280) ∈ lw_tbl := pw_tb_6 (List.mem_of_getElem? (i := 144) rfl)
theorem pw_cd_281 : Cond.code (pw_y 281) (pw_cc 281) (pw_mxl 281) (pw_ret 281) ∈ lw_tbl := pw_tb_6 (List.mem_of_getElem? (i := 148) rfl)
theorem pw_cd_282 : Cond.code (pw_y 282) (pw_cc 282) (pw_mxl 282) (pw_ret 282) ∈ lw_tbl := pw_tb_6 (List.mem_of_getElem? (i := 153) rfl)
theorem pw_cd_283 : Cond.code (pw_y 283) (pw_cc 283) (pw_mxl 283) (pw_ret 283) ∈ lw_tbl := pw_tb_6 (List.mem_of_getElem? (i := 157) rfl)
theorem pw_cd_284 : Cond.code (pw_y 284) (pw_cc 284) (pw_mxl 284) (pw_ret 284) ∈ lw_tbl := pw_tb_6 (List.mem_of_getElem? (i := 161) rfl)
theorem pw_cd_285 : Cond.code (pw_y 285) (pw_cc 285) (pw_mxl 285) (pw_ret 285) ∈ lw_tbl := pw_tb_6 (List.mem_of_getElem? (i := 165) rfl)
theorem pw_cd_286 : Cond.code (pw_y 286) (pw_cc 286) (pw_mxl 286) (pw_ret 286) ∈ lw_tbl := pw_tb_6 (List.mem_of_getElem? (i := 169) rfl)
theorem pw_cd_287 : Cond.code (pw_y 287) (pw_cc 287) (pw_mxl 287) (pw_ret 287) ∈ lw_tbl := pw_tb_6 (List.mem_of_getElem? (i := 173) rfl)
theorem pw_cd_288 : Cond.code (pw_y 288) (pw_cc 288) (pw_mxl 288) (pw_ret 288) ∈ lw_tbl := pw_tb_6 (List.mem_of_getElem? (i := 177) rfl)
theorem pw_cd_289 : Cond.code (pw_y 289) (pw_cc 289) (pw_mxl 289) (pw_ret 289) ∈ lw_tbl := pw_tb_6 (List.mem_of_getElem? (i := 181) rfl)
theorem pw_cd_290 : Cond.code (pw_y 290) (pw_cc 290) (pw_mxl 290) (pw_ret 290) ∈ lw_tbl := pw_tb_6 (List.mem_of_getElem? (i := 185) rfl)
theorem pw_cd_291 : Cond.code (pw_y 291) (pw_cc 291) (pw_mxl 291) (pw_ret 291) ∈ lw_tbl := pw_tb_6 (List.mem_of_getElem? (i := 189) rfl)
theorem pw_cd_292 : Cond.code (pw_y 292) (pw_cc 292) (pw_mxl 292) (pw_ret 292) ∈ lw_tbl := pw_tb_6 (List.mem_of_getElem? (i := 193) rfl)
theorem pw_cd_293 : Cond.code (pw_y 293) (pw_cc 293) (pw_mxl 293) (pw_ret 293) ∈ lw_tbl := pw_tb_6 (List.mem_of_getElem? (i := 207) rfl)
theorem pw_cd_294 : Cond.code (pw_y 294) (pw_cc 294) (pw_mxl 294) (pw_ret 294) ∈ lw_tbl := pw_tb_6 (List.mem_of_getElem? (i := 221) rfl)
theorem pw_cd_295 : Cond.code (pw_y 295) (pw_cc 295) (pw_mxl 295) (pw_ret 295) ∈ lw_tbl := pw_tb_6 (List.mem_of_getElem? (i := 225) rfl)
theorem pw_cd_296 : Cond.code (pw_y 296) (pw_cc 296) (pw_mxl 296) (pw_ret 296) ∈ lw_tbl := pw_tb_6 (List.mem_of_getElem? (i := 229) rfl)
theorem pw_cd_297 : Cond.code (pw_y 297) (pw_cc 297) (pw_mxl 297) (pw_ret 297) ∈ lw_tbl := pw_tb_6 (List.mem_of_getElem? (i := 234) rfl)
theorem pw_cd_298 : Cond.code (pw_y 298) (pw_cc 298) (pw_mxl 298) (pw_ret 298) ∈ lw_tbl := pw_tb_6 (List.mem_of_getElem? (i := 239) rfl)
theorem pw_cd_299 : Cond.code (pw_y 299) (pw_cc 299) (pw_mxl 299) (pw_ret 299) ∈ lw_tbl := pw_tb_7 (List.mem_of_getElem? (i := 7) rfl)
theorem pw_cd_300 : Cond.code (pw_y 300) (pw_cc 300) (pw_mxl 300) (pw_ret 300) ∈ lw_tbl := pw_tb_7 (List.mem_of_getElem? (i := 3) rfl)
theorem pw_cd_301 : Cond.code (pw_y 301) (pw_cc 301) (pw_mxl 301) (pw_ret 301) ∈ lw_tbl := pw_tb_7 (List.mem_of_getElem? (i := 11) rfl)
theorem pw_cd_302 : Cond.code (pw_y 302) (pw_cc 302) (pw_mxl 302) (pw_ret 302) ∈ lw_tbl := pw_tb_7 (List.mem_of_getElem? (i := 22) rfl)
theorem pw_cd_303 : Cond.code (pw_y 303) (pw_cc 303) (pw_mxl 303) (pw_ret 303) ∈ lw_tbl := pw_tb_7 (List.mem_of_getElem? (i := 18) rfl)
theorem pw_cd_304 : Cond.code (pw_y 304) (pw_cc 304) (pw_mxl 304) (pw_ret 304) ∈ lw_tbl := pw_tb_7 (List.mem_of_getElem? (i := 15) rfl)
theorem pw_cd_305 : Cond.code (pw_y 305) (pw_cc 305) (pw_mxl 305) (pw_ret 305) ∈ lw_tbl := pw_tb_7 (List.mem_of_getElem? (i := 33) rfl)
theorem pw_cd_306 : Cond.code (pw_y 306) (pw_cc 306) (pw_mxl 306) (pw_ret 306) ∈ lw_tbl := pw_tb_7 (List.mem_of_getElem? (i := 37) rfl)
theorem pw_cd_307 : Cond.code (pw_y 307) (pw_cc 307) (pw_mxl 307) (pw_ret 307) ∈ lw_tbl := pw_tb_7 (List.mem_of_getElem? (i := 30) rfl)
theorem pw_cd_308 : Cond.code (pw_y 308) (pw_cc 308) (pw_mxl 308) (pw_ret 308) ∈ lw_tbl := pw_tb_7 (List.mem_of_getElem? (i := 26) rfl)
theorem pw_cd_309 : Cond.code (pw_y 309) (pw_cc 309) (pw_mxl 309) (pw_ret 309) ∈ lw_tbl := pw_tb_7 (List.mem_of_getElem? (i := 41) rfl)
theorem pw_cd_310 : Cond.code (pw_y 310) (pw_cc 310) (pw_mxl 310) (pw_ret 310) ∈ lw_tbl := pw_tb_7 (List.mem_of_getElem? (i := 45) rfl)
theorem pw_cd_311 : Cond.code (pw_y 311) (pw_cc 311) (pw_mxl 311) (pw_ret 311) ∈ lw_tbl := pw_tb_7 (List.mem_of_getElem? (i := 57) rfl)
theorem pw_cd_312 : Cond.code (pw_y 312) (pw_cc 312) (pw_mxl 312) (pw_ret 312) ∈ lw_tbl := pw_tb_7 (List.mem_of_getElem? (i := 62) rfl)
theorem pw_cd_313 : Cond.code (pw_y 313) (pw_cc 313) (pw_mxl 313) (pw_ret 313) ∈ lw_tbl := pw_tb_7 (List.mem_of_getElem? (i := 66) rfl)
theorem pw_cd_314 : Cond.code (pw_y 314) (pw_cc 314) (pw_mxl 314) (pw_ret 314) ∈ lw_tbl := pw_tb_7 (List.mem_of_getElem? (i := 70) rfl)
theorem pw_cd_315 : Cond.code (pw_y 315) (pw_cc 315) (pw_mxl 315) (pw_ret 315) ∈ lw_tbl := pw_tb_7 (List.mem_of_getElem? (i := 78) rfl)
theorem pw_cd_316 : Cond.code (pw_y 316) (pw_cc 316) (pw_mxl 316) (pw_ret 316) ∈ lw_tbl := pw_tb_7 (List.mem_of_getElem? (i := 74) rfl)
theorem pw_cd_317 : Cond.code (pw_y 317) (pw_cc 317) (pw_mxl 317) (pw_ret 317) ∈ lw_tbl := pw_tb_7 (List.mem_of_getElem? (i := 82) rfl)
theorem pw_cd_318 : Cond.code (pw_y 318) (pw_cc 318) (pw_mxl 318) (pw_ret 318) ∈ lw_tbl := pw_tb_7 (List.mem_of_getElem? (i := 90) rfl)
theorem pw_cd_319 : Cond.code (pw_y 319) (pw_cc 319) (pw_mxl 319) (pw_ret 319) ∈ lw_tbl := pw_tb_7 (List.mem_of_getElem? (i := 86) rfl)
theorem pw_cd_320 : Cond.code (pw_y 320) (pw_cc 320) (pw_mxl 320) (pw_ret 320) ∈ lw_tbl := pw_tb_7 (List.mem_of_getElem? (i := 98) rfl)
theorem pw_cd_321 : Cond.code (pw_y 321) (pw_cc 321) (pw_mxl 321) (pw_ret 321) ∈ lw_tbl := pw_tb_7 (List.mem_of_getElem? (i := 94) rfl)
theorem pw_cd_322 : Cond.code (pw_y 322) (pw_cc 322) (pw_mxl 322) (pw_ret 322) ∈ lw_tbl := pw_tb_7 (List.mem_of_getElem? (i := 102) rfl)
theorem pw_cd_323 : Cond.code (pw_y 323) (pw_cc 323) (pw_mxl 323) (pw_ret 323) ∈ lw_tbl := pw_tb_7 (List.mem_of_getElem? (i := 106) rfl)
theorem pw_cd_324 : Cond.code (pw_y 324) (pw_cc 324) (pw_mxl 324) (pw_ret 324) ∈ lw_tbl := pw_tb_7 (List.mem_of_getElem? (i := 110) rfl)
theorem pw_cd_325 : Cond.code (pw_y 325) (pw_cc 325) (pw_mxl 325) (pw_ret 325) ∈ lw_tbl := pw_tb_7 (List.mem_of_getElem? (i := 114) rfl)
theorem pw_cd_326 : Cond.code (pw_y 326) (pw_cc 326) (pw_mxl 326) (pw_ret 326) ∈ lw_tbl := pw_tb_6 (List.mem_of_getElem? (i := 199) rfl)
theorem pw_cd_327 : Cond.code (pw_y 327) (pw_cc 327) (pw_mxl 327) (pw_ret 327) ∈ lw_tbl := pw_tb_6 (List.mem_of_getElem? (i := 196) rfl)
theorem pw_cd_328 : Cond.code (pw_y 328) (pw_cc 328) (pw_mxl 328) (pw_ret 328) ∈ lw_tbl := pw_tb_6 (List.mem_of_getElem? (i := 213) rfl)
theorem pw_cd_329 : Cond.code (pw_y 329) (pw_cc 329) (pw_mxl 329) (pw_ret 329) ∈ lw_tbl := pw_tb_6 (List.mem_of_getElem? (i := 210) rfl)
theorem pw_cd_330 : Cond.code (pw_y 330) (pw_cc 330) (pw_mxl 330) (pw_ret 330) ∈ lw_tbl := pw_tb_4 (List.mem_of_getElem? (i := 170) rfl)
theorem pw_cd_331 : Cond.code (pw_y 331) (pw_cc 331) (pw_mxl 331) (pw_ret 331) ∈ lw_tbl := pw_tb_4 (List.mem_of_getElem? (i := 39) rfl)
theorem pw_cd_332 : Cond.code (pw_y 332) (pw_cc 332) (pw_mxl 332) (pw_ret 332) ∈ lw_tbl := pw_tb_2 (List.mem_of_getElem? (i := 56) rfl)
theorem pw_cd_333 : Cond.code (pw_y 333) (pw_cc 333) (pw_mxl 333) (pw_ret 333) ∈ lw_tbl := pw_tb_2 (List.mem_of_getElem? (i := 112) rfl)
theorem pw_cd_334 : Cond.code (pw_y 334) (pw_cc 334) (pw_mxl 334) (pw_ret 334) ∈ lw_tbl := pw_tb_2 (List.mem_of_getElem? (i := 71) rfl)
theorem pw_cd_335 : Cond.code (pw_y 335) (pw_cc 335) (pw_mxl 335) (pw_ret 335) ∈ lw_tbl := pw_tb_1 (List.mem_of_getElem? (i := 203) rfl)
theorem pw_cd_336 : Cond.code (pw_y 336) (pw_cc 336) (pw_mxl 336) (pw_ret 336) ∈ lw_tbl := pw_tb_4 (List.mem_of_getElem? (i := 61) rfl)
theorem pw_cd_337 : Cond.code (pw_y 337) (pw_cc 337) (pw_mxl 337) (pw_ret 337) ∈ lw_tbl := pw_tb_4 (List.mem_of_getElem? (i := 54) rfl)
theorem pw_cd_338 : Cond.code (pw_y 338) (pw_cc 338) (pw_mxl 338) (pw_ret 338) ∈ lw_tbl := pw_tb_0 (List.mem_of_getElem? (i := 123) rfl)
theorem pw_cds_0 : ∀ j ∈ [1, 2, 3, 4, 5, 6, 7, 8, 9, 10, 11, 12, 13, 14, 15, 16, 17, 18, 19, 20], Cond.code (pw_y j) (pw_cc j) (pw_mxl j) (pw_ret j) ∈ lw_tbl := List.forall_mem_cons.mpr ⟨pw_cd_1, List.forall_mem_cons.mpr ⟨pw_cd_2, List.forall_mem_cons.mpr ⟨pw_cd_3, List.forall_mem_cons.mpr ⟨pw_cd_4, List.forall_mem_cons.mpr ⟨pw_cd_5, List.forall_mem_cons.mpr ⟨pw_cd_6, List.forall_mem_cons.mpr ⟨pw_cd_7, List.forall_mem_cons.mpr ⟨pw_cd_8, List.forall_mem_cons.mpr ⟨pw_cd_9, List.forall_mem_cons.mpr ⟨pw_cd_10, List.forall_mem_cons.mpr ⟨pw_cd_11, List.forall_mem_cons.mpr ⟨pw_cd_12, List.forall_mem_cons.mpr ⟨pw_cd_13, List.forall_mem_cons.mpr ⟨pw_cd_14, List.forall_mem_cons.mpr ⟨pw_cd_15, List.forall_mem_cons.mpr ⟨pw_cd_16, List.forall_mem_cons.mpr ⟨pw_cd_17, List.forall_mem_cons.mpr ⟨pw_cd_18, List.forall_mem_cons.mpr ⟨pw_cd_19, List.forall_mem_cons.mpr ⟨pw_cd_20, fun _ h => absurd h List.not_mem_nil⟩⟩⟩⟩⟩⟩⟩⟩⟩⟩⟩⟩⟩⟩⟩⟩⟩⟩⟩⟩
theorem pw_cds_1 : ∀ j ∈ [21, 22, 23, 24, 25, 26, 27, 28, 29, 30, 31, 32, 33, 34, 35, 36, 37, 38, 39, 40], Cond.code (pw_y j) (pw_cc j) (pw_mxl j) (pw_ret j) ∈ lw_tbl := List.forall_mem_cons.mpr ⟨pw_cd_21, List.forall_mem_cons.mpr ⟨pw_cd_22, List.forall_mem_cons.mpr ⟨pw_cd_23, List.forall_mem_cons.mpr ⟨pw_cd_24, List.forall_mem_cons.mpr ⟨pw_cd_25, List.forall_mem_cons.mpr ⟨pw_cd_26, List.forall_mem_cons.mpr ⟨pw_cd_27, List.forall_mem_cons.mpr ⟨pw_cd_28, List.forall_mem_cons.mpr ⟨pw_cd_29, List.forall_mem_cons.mpr ⟨pw_cd_30, List.forall_mem_cons.mpr ⟨pw_cd_31, List.forall_mem_cons.mpr ⟨pw_cd_32, List.forall_mem_cons.mpr ⟨pw_cd_33, List.forall_mem_cons.mpr ⟨pw_cd_34, List.forall_mem_cons.mpr ⟨pw_cd_35, List.forall_mem_cons.mpr ⟨pw_cd_36, List.forall_mem_cons.mpr ⟨pw_cd_37, List.forall_mem_cons.mpr ⟨pw_cd_38, List.forall_mem_cons.mpr ⟨pw_cd_39, List.forall_mem_cons.mpr ⟨pw_cd_40, fun _ h => absurd h List.not_mem_nil⟩⟩⟩⟩⟩⟩⟩⟩⟩⟩⟩⟩⟩⟩⟩⟩⟩⟩⟩⟩
theorem pw_cds_2 : ∀ j ∈ [41, 42, 43, 44, 45, 46, 47, 48, 49, 50, 51, 52, 53, 54, 55, 56, 57, 58, 59, 60], Cond.code (pw_y j) (pw_cc j) (pw_mxl j) (pw_ret j) ∈ lw_tbl := List.forall_mem_cons.mpr ⟨pw_cd_41, List.forall_mem_cons.mpr ⟨pw_cd_42, List.forall_mem_cons.mpr ⟨pw_cd_43, List.forall_mem_cons.mpr ⟨pw_cd_44, List.forall_mem_cons.mpr ⟨pw_cd_45, List.forall_mem_cons.mpr ⟨pw_cd_46, List.forall_mem_cons.mpr ⟨pw_cd_47, List.forall_mem_cons.mpr ⟨pw_cd_48, List.forall_mem_cons.mpr ⟨pw_cd_49, List.forall_mem_cons.mpr ⟨pw_cd_50, List.forall_mem_cons.mpr ⟨pw_cd_51, List.forall_mem_cons.mpr ⟨pw_cd_52, List.forall_mem_cons.mpr ⟨pw_cd_53, List.forall_mem_cons.mpr ⟨pw_cd_54, List.forall_mem_cons.mpr ⟨pw_cd_55, List.forall_mem_cons.mpr ⟨pw_cd_56, List.forall_mem_cons.mpr ⟨pw_cd_57, List.forall_mem_cons.mpr ⟨pw_cd_58, List.forall_mem_cons.mpr ⟨pw_cd_59, List.forall_mem_cons.mpr ⟨pw_cd_60, fun _ h => absurd h List.not_mem_nil⟩⟩⟩⟩⟩⟩⟩⟩⟩⟩⟩⟩⟩⟩⟩⟩⟩⟩⟩⟩
theorem pw_cds_3 : ∀ j ∈ [61, 62, 63, 64, 65, 66, 67, 68, 69, 70, 71, 72, 73, 74, 75, 76, 77, 78, 79, 80], Cond.code (pw_y j) (pw_cc j) (pw_mxl j) (pw_ret j) ∈ lw_tbl := List.forall_mem_cons.mpr ⟨pw_cd_61, List.forall_mem_cons.mpr ⟨pw_cd_62, List.forall_mem_cons.mpr ⟨pw_cd_63, List.forall_mem_cons.mpr ⟨pw_cd_64, List.forall_mem_cons.mpr ⟨pw_cd_65, List.forall_mem_cons.mpr ⟨pw_cd_66, List.forall_mem_cons.mpr ⟨pw_cd_67, List.forall_mem_cons.mpr ⟨pw_cd_68, List.forall_mem_cons.mpr ⟨pw_cd_69, List.forall_mem_cons.mpr ⟨pw_cd_70, List.forall_mem_cons.mpr ⟨pw_cd_71, List.forall_mem_cons.mpr ⟨pw_cd_72, List.forall_mem_cons.mpr ⟨pw_cd_73, List.forall_mem_cons.mpr ⟨pw_cd_74, List.forall_mem_cons.mpr ⟨pw_cd_75, List.forall_mem_cons.mpr ⟨pw_cd_76, List.forall_mem_cons.mpr ⟨pw_cd_77, List.forall_mem_cons.mpr ⟨pw_cd_78, List.forall_mem_cons.mpr ⟨pw_cd_79, List.forall_mem_cons.mpr ⟨pw_cd_80, fun _ h => absurd h List.not_mem_nil⟩⟩⟩⟩⟩⟩⟩⟩⟩⟩⟩⟩⟩⟩⟩⟩⟩⟩⟩⟩
theorem pw_cds_4 : ∀ j ∈ [81, 82, 83, 84, 85, 86, 87, 88, 89, 90, 91, 92, 93, 94, 95, 96, 97, 98, 99, 100], Cond.code (pw_y j) (pw_cc j) (pw_mxl j) (pw_ret j) ∈ lw_tbl := List.forall_mem_cons.mpr ⟨pw_cd_81, List.forall_mem_cons.mpr ⟨pw_cd_82, List.forall_mem_cons.mpr ⟨pw_cd_83, List.forall_mem_cons.mpr ⟨pw_cd_84, List.forall_mem_cons.mpr ⟨pw_cd_85, List.forall_mem_cons.mpr ⟨pw_cd_86, List.forall_mem_cons.mpr ⟨pw_cd_87, List.forall_mem_cons.mpr ⟨pw_cd_88, List.forall_mem_cons.mpr ⟨pw_cd_89, List.forall_mem_cons.mpr ⟨pw_cd_90, List.forall_mem_cons.mpr ⟨pw_cd_91, List.forall_mem_cons.mpr ⟨pw_cd_92, List.forall_mem_cons.mpr ⟨pw_cd_93, List.forall_mem_cons.mpr ⟨pw_cd_94, List.forall_mem_cons.mpr ⟨pw_cd_95, List.forall_mem_cons.mpr ⟨pw_cd_96, List.forall_mem_cons.mpr ⟨pw_cd_97, List.forall_mem_cons.mpr ⟨pw_cd_98, List.forall_mem_cons.mpr ⟨pw_cd_99, List.forall_mem_cons.mpr ⟨pw_cd_100, fun _ h => absurd h List.not_mem_nil⟩⟩⟩⟩⟩⟩⟩⟩⟩⟩⟩⟩⟩⟩⟩⟩⟩⟩⟩⟩
theorem pw_cds_5 : ∀ j ∈ [101, 102, 103, 104, 105, 106, 107, 108, 109, 110, 111, 112, 113, 114, 115, 116, 117, 118, 119, 120], Cond.code (pw_y j) (pw_cc j) (pw_mxl j) (pw_ret j) ∈ lw_tbl := List.forall_mem_cons.mpr ⟨pw_cd_101, List.forall_mem_cons.mpr ⟨pw_cd_102, List.forall_mem_cons.mpr ⟨pw_cd_103, List.forall_mem_cons.mpr ⟨pw_cd_104, List.forall_mem_cons.mpr ⟨pw_cd_105, List.forall_mem_cons.mpr ⟨pw_cd_106, List.forall_mem_cons.mpr ⟨pw_cd_107, List.forall_mem_cons.mpr ⟨pw_cd_108, List.forall_mem_cons.mpr ⟨pw_cd_109, List.forall_mem_cons.mpr ⟨pw_cd_110, List.forall_mem_cons.mpr ⟨pw_cd_111, List.forall_mem_cons.mpr ⟨pw_cd_112, List.forall_mem_cons.mpr ⟨pw_cd_113, List.forall_mem_cons.mpr ⟨pw_cd_114, List.forall_mem_cons.mpr ⟨pw_cd_115, List.forall_mem_cons.mpr ⟨pw_cd_116, List.forall_mem_cons.mpr ⟨pw_cd_117, List.forall_mem_cons.mpr ⟨pw_cd_118, List.forall_mem_cons.mpr ⟨pw_cd_119, List.forall_mem_cons.mpr ⟨pw_cd_120, fun _ h => absurd h List.not_mem_nil⟩⟩⟩⟩⟩⟩⟩⟩⟩⟩⟩⟩⟩⟩⟩⟩⟩⟩⟩⟩
theorem pw_cds_6 : ∀ j ∈ [121, 122, 123, 124, 125, 126, 127, 128, 129, 130, 131, 132, 133, 134, 135, 136, 137, 138, 139, 140], Cond.code (pw_y j) (pw_cc j) (pw_mxl j) (pw_ret j) ∈ lw_tbl := List.forall_mem_cons.mpr ⟨pw_cd_121, List.forall_mem_cons.mpr ⟨pw_cd_122, List.forall_mem_cons.mpr ⟨pw_cd_123, List.forall_mem_cons.mpr ⟨pw_cd_124, List.forall_mem_cons.mpr ⟨pw_cd_125, List.forall_mem_cons.mpr ⟨pw_cd_126, List.forall_mem_cons.mpr ⟨pw_cd_127, List.forall_mem_cons.mpr ⟨pw_cd_128, List.forall_mem_cons.mpr ⟨pw_cd_129, List.forall_mem_cons.mpr ⟨pw_cd_130, List.forall_mem_cons.mpr ⟨pw_cd_131, List.forall_mem_cons.mpr ⟨pw_cd_132, List.forall_mem_cons.mpr ⟨pw_cd_133, List.forall_mem_cons.mpr ⟨pw_cd_134, List.forall_mem_cons.mpr ⟨pw_cd_135, List.forall_mem_cons.mpr ⟨pw_cd_136, List.forall_mem_cons.mpr ⟨pw_cd_137, List.forall_mem_cons.mpr ⟨pw_cd_138, List.forall_mem_cons.mpr ⟨pw_cd_139, List.forall_mem_cons.mpr ⟨pw_cd_140, fun _ h => absurd h List.not_mem_nil⟩⟩⟩⟩⟩⟩⟩⟩⟩⟩⟩⟩⟩⟩⟩⟩⟩⟩⟩⟩
theorem pw_cds_7 : ∀ j ∈ [141, 142, 143, 144, 145, 146, 147, 148, 149, 150, 151, 152, 153, 154, 155, 156, 157, 158, 159, 160], Cond.code (pw_y j) (pw_cc j) (pw_mxl j) (pw_ret j) ∈ lw_tbl := List.forall_mem_cons.mpr ⟨pw_cd_141, List.forall_mem_cons.mpr ⟨pw_cd_142, List.forall_mem_cons.mpr ⟨pw_cd_143, List.forall_mem_cons.mpr ⟨pw_cd_144, List.forall_mem_cons.mpr ⟨pw_cd_145, List.forall_mem_cons.mpr ⟨pw_cd_146, List.forall_mem_cons.mpr ⟨pw_cd_147, List.forall_mem_cons.mpr ⟨pw_cd_148, List.forall_mem_cons.mpr ⟨pw_cd_149, List.forall_mem_cons.mpr ⟨pw_cd_150, List.forall_mem_cons.mpr ⟨pw_cd_151, List.forall_mem_cons.mpr ⟨pw_cd_152, List.forall_mem_cons.mpr ⟨pw_cd_153, List.forall_mem_cons.mpr ⟨pw_cd_154, List.forall_mem_cons.mpr ⟨pw_cd_155, List.forall_mem_cons.mpr ⟨pw_cd_156, List.forall_mem_cons.mpr ⟨pw_cd_157, List.forall_mem_cons.mpr ⟨pw_cd_158, List.forall_mem_cons.mpr ⟨pw_cd_159, List.forall_mem_cons.mpr ⟨pw_cd_160, fun _ h => absurd h List.not_mem_nil⟩⟩⟩⟩⟩⟩⟩⟩⟩⟩⟩⟩⟩⟩⟩⟩⟩⟩⟩⟩
theorem pw_cds_8 : ∀ j ∈ [161, 162, 163, 164, 165, 166, 167, 168, 169, 170, 171, 172, 173, 174, 175, 176, 177, 178, 179, 180], Cond.code (pw_y j) (pw_cc j) (pw_mxl j) (pw_ret j) ∈ lw_tbl := List.forall_mem_cons.mpr ⟨pw_cd_161, List.forall_mem_cons.mpr ⟨pw_cd_162, List.forall_mem_cons.mpr ⟨pw_cd_163, List.forall_mem_cons.mpr ⟨pw_cd_164, List.forall_mem_cons.mpr ⟨pw_cd_165, List.forall_mem_cons.mpr ⟨pw_cd_166, List.forall_mem_cons.mpr ⟨pw_cd_167, List.forall_mem_cons.mpr ⟨pw_cd_168, List.forall_mem_cons.mpr ⟨pw_cd_169, List.forall_mem_cons.mpr ⟨pw_cd_170, List.forall_mem_cons.mpr ⟨pw_cd_171, List.forall_mem_cons.mpr ⟨pw_cd_172, List.forall_mem_cons.mpr ⟨pw_cd_173, List.forall_mem_cons.mpr ⟨pw_cd_174, List.forall_mem_cons.mpr ⟨pw_cd_175, List.forall_mem_cons.mpr ⟨pw_cd_176, List.forall_mem_cons.mpr ⟨pw_cd_177, List.forall_mem_cons.mpr ⟨pw_cd_178, List.forall_mem_cons.mpr ⟨pw_cd_179, List.forall_mem_cons.mpr ⟨pw_cd_180, fun _ h => absurd h List.not_mem_nil⟩⟩⟩⟩⟩⟩⟩⟩⟩⟩⟩⟩⟩⟩⟩⟩⟩⟩⟩⟩
theorem pw_cds_9 : ∀ j ∈ [181, 182, 183, 184, 185, 186, 187, 188, 189, 190, 191, 192, 193, 194, 195, 196, 197, 198, 199, 200], Cond.code (pw_y j) (pw_cc j) (pw_mxl j) (pw_ret j) ∈ lw_tbl := List.forall_mem_cons.mpr ⟨pw_cd_181, List.forall_mem_cons.mpr ⟨pw_cd_182, List.forall_mem_cons.mpr ⟨pw_cd_183, List.forall_mem_cons.mpr ⟨pw_cd_184, List.forall_mem_cons.mpr ⟨pw_cd_185, List.forall_mem_cons.mpr ⟨pw_cd_186, List.forall_mem_cons.mpr ⟨pw_cd_187, List.forall_mem_cons.mpr ⟨pw_cd_188, List.forall_mem_cons.mpr ⟨pw_cd_189, List.forall_mem_cons.mpr ⟨pw_cd_190, List.forall_mem_cons.mpr ⟨pw_cd_191, List.forall_mem_cons.mpr ⟨pw_cd_192, List.forall_mem_cons.mpr ⟨pw_cd_193, List.forall_mem_cons.mpr ⟨pw_cd_194, List.forall_mem_cons.mpr ⟨pw_cd_195, List.forall_mem_cons.mpr ⟨pw_cd_196, List.forall_mem_cons.mpr ⟨pw_cd_197, List.forall_mem_cons.mpr ⟨pw_cd_198, List.forall_mem_cons.mpr ⟨pw_cd_199, List.forall_mem_cons.mpr ⟨pw_cd_200, fun _ h => absurd h List.not_mem_nil⟩⟩⟩⟩⟩⟩⟩⟩⟩⟩⟩⟩⟩⟩⟩⟩⟩⟩⟩⟩
theorem pw_cds_10 : ∀ j ∈ [201, 202, 203, 204, 205, 206, 207, 208, 209, 210, 211, 212, 213, 214, 215, 216, 217, 218, 219, 220], Cond.code (pw_y j) (pw_cc j) (pw_mxl j) (pw_ret j) ∈ lw_tbl := List.forall_mem_cons.mpr ⟨pw_cd_201, List.forall_mem_cons.mpr ⟨pw_cd_202, List.forall_mem_cons.mpr ⟨pw_cd_203, List.forall_mem_cons.mpr ⟨pw_cd_204, List.forall_mem_cons.mpr ⟨pw_cd_205, List.forall_mem_cons.mpr ⟨pw_cd_206, List.forall_mem_cons.mpr ⟨pw_cd_207, List.forall_mem_cons.mpr ⟨pw_cd_208, List.forall_mem_cons.mpr ⟨pw_cd_209, List.forall_mem_cons.mpr ⟨pw_cd_210, List.forall_mem_cons.mpr ⟨pw_cd_211, List.forall_mem_cons.mpr ⟨pw_cd_212, List.forall_mem_cons.mpr ⟨pw_cd_213, List.forall_mem_cons.mpr ⟨pw_cd_214, List.forall_mem_cons.mpr ⟨pw_cd_215, List.forall_mem_cons.mpr ⟨pw_cd_216, List.forall_mem_cons.mpr ⟨pw_cd_217, List.forall_mem_cons.mpr ⟨pw_cd_218, List.forall_mem_cons.mpr ⟨pw_cd_219, List.forall_mem_cons.mpr ⟨pw_cd_220, fun _ h => absurd h List.not_mem_nil⟩⟩⟩⟩⟩⟩⟩⟩⟩⟩⟩⟩⟩⟩⟩⟩⟩⟩⟩⟩
theorem pw_cds_11 : ∀ j ∈ [221, 222, 223, 224, 225, 226, 227, 228, 229, 230, 231, 232, 233, 234, 235, 236, 237, 238, 239, 240], Cond.code (pw_y j) (pw_cc j) (pw_mxl j) (pw_ret j) ∈ lw_tbl := List.forall_mem_cons.mpr ⟨pw_cd_221, List.forall_mem_cons.mpr ⟨pw_cd_222, List.forall_mem_cons.mpr ⟨pw_cd_223, List.forall_mem_cons.mpr ⟨pw_cd_224, List.forall_mem_cons.mpr ⟨pw_cd_225, List.forall_mem_cons.mpr ⟨pw_cd_226, List.forall_mem_cons.mpr ⟨pw_cd_227, List.forall_mem_cons.mpr ⟨pw_cd_228, List.forall_mem_cons.mpr ⟨pw_cd_229, List.forall_mem_cons.mpr ⟨pw_cd_230, List.forall_mem_cons.mpr ⟨pw_cd_231, List.forall_mem_cons.mpr ⟨pw_cd_232, List.forall_mem_cons.mpr ⟨pw_cd_233, List.forall_mem_cons.mpr ⟨pw_cd_234, List.forall_mem_cons.mpr ⟨pw_cd_235, List.forall_mem_cons.mpr ⟨pw_cd_236, List.forall_mem_cons.mpr ⟨pw_cd_237, List.forall_mem_cons.mpr ⟨pw_cd_238, List.forall_mem_cons.mpr ⟨pw_cd_239, List.forall_mem_cons.mpr ⟨pw_cd_240, fun _ h => absurd h List.not_mem_nil⟩⟩⟩⟩⟩⟩⟩⟩⟩⟩⟩⟩⟩⟩⟩⟩⟩⟩⟩⟩
theorem pw_cds_12 : ∀ j ∈ [241, 242, 243, 244, 245, 246, 247, 248, 249, 250, 251, 252, 253, 254, 255, 256, 257, 258, 259, 260], Cond.code (pw_y j) (pw_cc j) (pw_mxl j) (pw_ret j) ∈ lw_tbl := List.forall_mem_cons.mpr ⟨pw_cd_241, List.forall_mem_cons.mpr ⟨pw_cd_242, List.forall_mem_cons.mpr ⟨pw_cd_243, List.forall_mem_cons.mpr ⟨pw_cd_244, List.forall_mem_cons.mpr ⟨pw_cd_245, List.forall_mem_cons.mpr ⟨pw_cd_246, List.forall_mem_cons.mpr ⟨pw_cd_247, List.forall_mem_cons.mpr ⟨pw_cd_248, List.forall_mem_cons.mpr ⟨pw_cd_249, List.forall_mem_cons.mpr ⟨pw_cd_250, List.forall_mem_cons.mpr ⟨pw_cd_251, List.forall_mem_cons.mpr ⟨pw_cd_252, List.forall_mem_cons.mpr ⟨pw_cd_253, List.forall_mem_cons.mpr ⟨pw_cd_254, List.forall_mem_cons.mpr ⟨pw_cd_255, List.forall_mem_cons.mpr ⟨pw_cd_256, List.forall_mem_cons.mpr ⟨pw_cd_257, List.forall_mem_cons.mpr ⟨pw_cd_258, List.forall_mem_cons.mpr ⟨pw_cd_259, List.forall_mem_cons.mpr ⟨pw_cd_260, fun _ h => absurd h List.not_mem_nil⟩⟩⟩⟩⟩⟩⟩⟩⟩⟩⟩⟩⟩⟩⟩⟩⟩⟩⟩⟩
theorem pw_cds_13 : ∀ j ∈ [261, 262, 263, 264, 265, 266, 267, 268, 269, 270, 271, 272, 273, 274, 275, 276, 277, 278, 279, 280], Cond.code (pw_y j) (pw_cc j) (pw_mxl j) (pw_ret j) ∈ lw_tbl := List.forall_mem_cons.mpr ⟨pw_cd_261, List.forall_mem_cons.mpr ⟨pw_cd_262, List.forall_mem_cons.mpr ⟨pw_cd_263, List.forall_mem_cons.mpr ⟨pw_cd_264, List.forall_mem_cons.mpr ⟨pw_cd_265, List.forall_mem_cons.mpr ⟨pw_cd_266, List.forall_mem_cons.mpr ⟨pw_cd_267, List.forall_mem_cons.mpr ⟨pw_cd_268, List.forall_mem_cons.mpr ⟨pw_cd_269, List.forall_mem_cons.mpr ⟨pw_cd_270, List.forall_mem_cons.mpr ⟨pw_cd_271, List.forall_mem_cons.mpr ⟨pw_cd_272, List.forall_mem_cons.mpr ⟨pw_cd_273, List.forall_mem_cons.mpr ⟨pw_cd_274, List.forall_mem_cons.mpr ⟨pw_cd_275, List.forall_mem_cons.mpr ⟨pw_cd_276, List.forall_mem_cons.mpr ⟨pw_cd_277, List.forall_mem_cons.mpr ⟨pw_cd_278, List.forall_mem_cons.mpr ⟨pw_cd_279, List.forall_mem_cons.mpr ⟨pw_cd_280, fun _ h => absurd h List.not_mem_nil⟩⟩⟩⟩⟩⟩⟩⟩⟩⟩⟩⟩⟩⟩⟩⟩⟩⟩⟩⟩
theorem pw_cds_14 : ∀ j ∈ [281, 282, 283, 284, 285, 286, 287, 288, 289, 290, 291, 292, 293, 294, 295, 296, 297, 298, 299, 300], Cond.code (pw_y j) (pw_cc j) (pw_mxl j) (pw_ret j) ∈ lw_tbl := List.forall_mem_cons.mpr ⟨pw_cd_281, List.forall_mem_cons.mpr ⟨pw_cd_282, List.forall_mem_cons.mpr ⟨pw_cd_283, List.forall_mem_cons.mpr ⟨pw_cd_284, List.forall_mem_cons.mpr ⟨pw_cd_285, List.forall_mem_cons.mpr ⟨pw_cd_286, List.forall_mem_cons.mpr ⟨pw_cd_287, List.forall_mem_cons.mpr ⟨pw_cd_288, List.forall_mem_cons.mpr ⟨pw_cd_289, List.forall_mem_cons.mpr ⟨pw_cd_290, List.forall_mem_cons.mpr ⟨pw_cd_291, List.forall_mem_cons.mpr ⟨pw_cd_292, List.forall_mem_cons.mpr ⟨pw_cd_293, List.forall_mem_cons.mpr ⟨pw_cd_294, List.forall_mem_cons.mpr ⟨pw_cd_295, List.forall_mem_cons.mpr ⟨pw_cd_296, List.forall_mem_cons.mpr ⟨pw_cd_297, List.forall_mem_cons.mpr ⟨pw_cd_298, List.forall_mem_cons.mpr ⟨pw_cd_299, List.forall_mem_cons.mpr ⟨pw_cd_300, fun _ h => absurd h List.not_mem_nil⟩⟩⟩⟩⟩⟩⟩⟩⟩⟩⟩⟩⟩⟩⟩⟩⟩⟩⟩⟩
theorem pw_cds_15 : ∀ j ∈ [301, 302, 303, 304, 305, 306, 307, 308, 309, 310, 311, 312, 313, 314, 315, 316, 317, 318, 319, 320], Cond.code (pw_y j) (pw_cc j) (pw_mxl j) (pw_ret j) ∈ lw_tbl := List.forall_mem_cons.mpr ⟨pw_cd_301, List.forall_mem_cons.mpr ⟨pw_cd_302, List.forall_mem_cons.mpr ⟨pw_cd_303, List.forall_mem_cons.mpr ⟨pw_cd_304, List.forall_mem_cons.mpr ⟨pw_cd_305, List.forall_mem_cons.mpr ⟨pw_cd_306, List.forall_mem_cons.mpr ⟨pw_cd_307, List.forall_mem_cons.mpr ⟨pw_cd_308, List.forall_mem_cons.mpr ⟨pw_cd_309, List.forall_mem_cons.mpr ⟨pw_cd_310, List.forall_mem_cons.mpr ⟨pw_cd_311, List.forall_mem_cons.mpr ⟨pw_cd_312, List.forall_mem_cons.mpr ⟨pw_cd_313, List.forall_mem_cons.mpr ⟨pw_cd_314, List.forall_mem_cons.mpr ⟨pw_cd_315, List.forall_mem_cons.mpr ⟨pw_cd_316, List.forall_mem_cons.mpr ⟨pw_cd_317, List.forall_mem_cons.mpr ⟨pw_cd_318, List.forall_mem_cons.mpr ⟨pw_cd_319, List.forall_mem_cons.mpr ⟨pw_cd_320, fun _ h => absurd h List.not_mem_nil⟩⟩⟩⟩⟩⟩⟩⟩⟩⟩⟩⟩⟩⟩⟩⟩⟩⟩⟩⟩
theorem pw_cds_16 : ∀ j ∈ [321, 322, 323, 324, 325, 326, 327, 328, 329, 330, 331, 332, 333, 334, 335, 336, 337, 338], Cond.code (pw_y j) (pw_cc j) (pw_mxl j) (pw_ret j) ∈ lw_tbl := List.forall_mem_cons.mpr ⟨pw_cd_321, List.forall_mem_cons.mpr ⟨pw_cd_322, List.forall_mem_cons.mpr ⟨pw_cd_323, List.forall_mem_cons.mpr ⟨pw_cd_324, List.forall_mem_cons.mpr ⟨pw_cd_325, List.forall_mem_cons.mpr ⟨pw_cd_326, List.forall_mem_cons.mpr ⟨pw_cd_327, List.forall_mem_cons.mpr ⟨pw_cd_328, List.forall_mem_cons.mpr ⟨pw_cd_329, List.forall_mem_cons.mpr ⟨pw_cd_330, List.forall_mem_cons.mpr ⟨pw_cd_331, List.forall_mem_cons.mpr ⟨pw_cd_332, List.forall_mem_cons.mpr ⟨pw_cd_333, List.forall_mem_cons.mpr ⟨pw_cd_334, List.forall_mem_cons.mpr ⟨pw_cd_335, List.forall_mem_cons.mpr ⟨pw_cd_336, List.forall_mem_cons.mpr ⟨pw_cd_337, List.forall_mem_cons.mpr ⟨pw_cd_338, fun _ h => absurd h List.not_mem_nil⟩⟩⟩⟩⟩⟩⟩⟩⟩⟩⟩⟩⟩⟩⟩⟩⟩⟩
set_option maxRecDepth 100000 in
theorem pw_cds : ∀ j ∈ pw_ck, Cond.code (pw_y j) (pw_cc j) (pw_mxl j) (pw_ret j) ∈ lw_tbl := by
  show ∀ j ∈ [1, 2, 3, 4, 5, 6, 7, 8, 9, 10, 11, 12, 13, 14, 15, 16, 17, 18, 19, 20] ++ ([21, 22, 23, 24, 25, 26, 27, 28, 29, 30, 31, 32, 33, 34, 35, 36, 37, 38, 39, 40] ++ ([41, 42, 43, 44, 45, 46, 47, 48, 49, 50, 51, 52, 53, 54, 55, 56, 57, 58, 59, 60] ++ ([61, 62, 63, 64, 65, 66, 67, 68, 69, 70, 71, 72, 73, 74, 75, 76, 77, 78, 79, 80] ++ ([81, 82, 83, 84, 85, 86, 87, 88, 89, 90, 91, 92, 93, 94, 95, 96, 97, 98, 99, 100] ++ ([101, 102, 103, 104, 105, 106, 107, 108, 109, 110, 111, 112, 113, 114, 115, 116, 117, 118, 119, 120] ++ ([121, 122, 123, 124, 125, 126, 127, 128, 129, 130, 131, 132, 133, 134, 135, 136, 137, 138, 139, 140] ++ ([141, 142, 143, 144, 145, 146, 147, 148, 149, 150, 151, 152, 153, 154, 155, 156, 157, 158, 159, 160] ++ ([161, 162, 163, 164, 165, 166, 167, 168, 169, 170, 171, 172, 173, 174, 175, 176, 177, 178, 179, 180] ++ ([181, 182, 183, 184, 185, 186, 187, 188, 189, 190, 191, 192, 193, 194, 195, 196, 197, 198, 199, 200] ++ ([201, 202, 203, 204, 205, 206, 207, 208, 209, 210, 211, 212, 213, 214, 215, 216, 217, 218, 219, 220] ++ ([221, 222, 223, 224, 225, 226, 227, 228, 229, 230, 231, 232, 233, 234, 235, 236, 237, 238, 239, 240] ++ ([241, 242, 243, 244, 245, 246, 247, 248, 249, 250, 251, 252, 253, 254, 255, 256, 257, 258, 259, 260] ++ ([261, 262, 263, 264, 265, 266, 267, 268, 269, 270, 271, 272, 273, 274, 275, 276, 277, 278, 279, 280] ++ ([281, 282, 283, 284, 285, 286, 287, 288, 289, 290, 291, 292, 293, 294, 295, 296, 297, 298, 299, 300] ++ ([301, 302, 303, 304, 305, 306, 307, 308, 309, 310, 311, 312, 313, 314, 315, 316, 317, 318, 319, 320] ++ ([321, 322, 323, 324, 325, 326, 327, 328, 329, 330, 331, 332, 333, 334, 335, 336, 337, 338])))))))))))))))), _
  exact List.forall_mem_append.mpr ⟨pw_cds_0, List.forall_mem_append.mpr ⟨pw_cds_1, List.forall_mem_append.mpr ⟨pw_cds_2, List.forall_mem_append.mpr ⟨pw_cds_3, List.forall_mem_append.mpr ⟨pw_cds_4, List.forall_mem_append.mpr ⟨pw_cds_5, List.forall_mem_append.mpr ⟨pw_cds_6, List.forall_mem_append.mpr ⟨pw_cds_7, List.forall_mem_append.mpr ⟨pw_cds_8, List.forall_mem_append.mpr ⟨pw_cds_9, List.forall_mem_append.mpr ⟨pw_cds_10, List.forall_mem_append.mpr ⟨pw_cds_11, List.forall_mem_append.mpr ⟨pw_cds_12, List.forall_mem_append.mpr ⟨pw_cds_13, List.forall_mem_append.mpr ⟨pw_cds_14, List.forall_mem_append.mpr ⟨pw_cds_15, pw_cds_16⟩⟩⟩⟩⟩⟩⟩⟩⟩⟩⟩⟩⟩⟩⟩⟩
theorem pw_in_cd : ∀ w ∈ pw_Wcd, w ∈ lw_tbl := by
  intro w hw
  obtain ⟨j, hj, rfl⟩ := List.mem_map.mp hw
  exact pw_cds j hj
theorem pw_g_cd : ∀ w ∈ pw_Wcd, goodWord w = true := by
  intro w hw
  obtain ⟨j, hj, rfl⟩ := List.mem_map.mp hw
  rfl
theorem pw_m_lay {w : Cond} (h : w ∈ pw_Wlay) : w ∈ pw_W := List.mem_append_left _ h
theorem pw_m_fl {w : Cond} (h : w ∈ pw_Wfl) : w ∈ pw_W := List.mem_append_right _ (List.mem_append_left _ h)
theorem pw_m_st {w : Cond} (h : w ∈ pw_Wst) : w ∈ pw_W := List.mem_append_right _ (List.mem_append_right _ (List.mem_append_left _ h))
theorem pw_m_co {w : Cond} (h : w ∈ pw_Wco) : w ∈ pw_W := List.mem_append_right _ (List.mem_append_right _ (List.mem_append_right _ (List.mem_append_left _ h)))
theorem pw_m_nl {w : Cond} (h : w ∈ pw_Wnl) : w ∈ pw_W := List.mem_append_right _ (List.mem_append_right _ (List.mem_append_right _ (List.mem_append_right _ (List.mem_append_left _ h))))
theorem pw_m_ni {w : Cond} (h : w ∈ pw_Wni) : w ∈ pw_W := List.mem_append_right _ (List.mem_append_right _ (List.mem_append_right _ (List.mem_append_right _ (List.mem_append_right _ (List.mem_append_left _ h)))))
theorem pw_m_in {w : Cond} (h : w ∈ pw_Win) : w ∈ pw_W := List.mem_append_right _ (List.mem_append_right _ (List.mem_append_right _ (List.mem_append_right _ (List.mem_append_right _ (List.mem_append_right _ (List.mem_append_left _ h))))))
theorem pw_m_ar {w : Cond} (h : w ∈ pw_War) : w ∈ pw_W := List.mem_append_right _ (List.mem_append_right _ (List.mem_append_right _ (List.mem_append_right _ (List.mem_append_right _ (List.mem_append_right _ (List.mem_append_right _ (List.mem_append_left _ h)))))))
theorem pw_m_na {w : Cond} (h : w ∈ pw_Wna) : w ∈ pw_W := List.mem_append_right _ (List.mem_append_right _ (List.mem_append_right _ (List.mem_append_right _ (List.mem_append_right _ (List.mem_append_right _ (List.mem_append_right _ (List.mem_append_right _ (List.mem_append_left _ h))))))))
theorem pw_m_ml {w : Cond} (h : w ∈ pw_Wml) : w ∈ pw_W := List.mem_append_right _ (List.mem_append_right _ (List.mem_append_right _ (List.mem_append_right _ (List.mem_append_right _ (List.mem_append_right _ (List.mem_append_right _ (List.mem_append_right _ (List.mem_append_right _ (List.mem_append_left _ h)))))))))
theorem pw_m_cd {w : Cond} (h : w ∈ pw_Wcd) : w ∈ pw_W := List.mem_append_right _ (List.mem_append_right _ (List.mem_append_right _ (List.mem_append_right _ (List.mem_append_right _ (List.mem_append_right _ (List.mem_append_right _ (List.mem_append_right _ (List.mem_append_right _ (List.mem_append_right _ (List.mem_append_left _ h))))))))))
theorem pw_m_sk {w : Cond} (h : w ∈ pw_Wsk) : w ∈ pw_W := List.mem_append_right _ (List.mem_append_right _ (List.mem_append_right _ (List.mem_append_right _ (List.mem_append_right _ (List.mem_append_right _ (List.mem_append_right _ (List.mem_append_right _ (List.mem_append_right _ (List.mem_append_right _ (List.mem_append_right _ (List.mem_append_left _ h)))))))))))
theorem pw_m_ik {w : Cond} (h : w ∈ pw_Wik) : w ∈ pw_W := List.mem_append_right _ (List.mem_append_right _ (List.mem_append_right _ (List.mem_append_right _ (List.mem_append_right _ (List.mem_append_right _ (List.mem_append_right _ (List.mem_append_right _ (List.mem_append_right _ (List.mem_append_right _ (List.mem_append_right _ (List.mem_append_right _ (List.mem_append_left _ h))))))))))))
theorem pw_m_vk {w : Cond} (h : w ∈ pw_Wvk) : w ∈ pw_W := List.mem_append_right _ (List.mem_append_right _ (List.mem_append_right _ (List.mem_append_right _ (List.mem_append_right _ (List.mem_append_right _ (List.mem_append_right _ (List.mem_append_right _ (List.mem_append_right _ (List.mem_append_right _ (List.mem_append_right _ (List.mem_append_right _ (List.mem_append_right _ (h)))))))))))))
theorem pw_n_fl {w : Cond} (h : w ∈ pw_Nfl) : w ∈ pw_N := List.mem_append_left _ h
theorem pw_n_st {w : Cond} (h : w ∈ pw_Nst) : w ∈ pw_N := List.mem_append_right _ (List.mem_append_left _ h)
theorem pw_n_ml {w : Cond} (h : w ∈ pw_Nml) : w ∈ pw_N := List.mem_append_right _ (List.mem_append_right _ (List.mem_append_left _ h))
theorem pw_n_ao {w : Cond} (h : w ∈ pw_Nao) : w ∈ pw_N := List.mem_append_right _ (List.mem_append_right _ (List.mem_append_right _ h))
theorem pw_n_ca : (Cond.castable "[I" "java/lang/Cloneable") ∈ pw_N := pw_n_ao List.mem_cons_self
theorem pw_W_in : ∀ w ∈ pw_W, w ∈ lw_tbl := by
  unfold pw_W
  refine List.forall_mem_append.mpr ⟨pw_in pw_e_lay, ?_⟩
  refine List.forall_mem_append.mpr ⟨pw_in pw_e_fl, ?_⟩
  refine List.forall_mem_append.mpr ⟨pw_in pw_e_st, ?_⟩
  refine List.forall_mem_append.mpr ⟨pw_in pw_e_co, ?_⟩
  refine List.forall_mem_append.mpr ⟨pw_in pw_e_nl, ?_⟩
  refine List.forall_mem_append.mpr ⟨pw_in pw_e_ni, ?_⟩
  refine List.forall_mem_append.mpr ⟨pw_in pw_e_in, ?_⟩
  refine List.forall_mem_append.mpr ⟨pw_in pw_e_ar, ?_⟩
  refine List.forall_mem_append.mpr ⟨pw_in pw_e_na, ?_⟩
  refine List.forall_mem_append.mpr ⟨pw_in pw_e_ml, ?_⟩
  refine List.forall_mem_append.mpr ⟨pw_in_cd, ?_⟩
  refine List.forall_mem_append.mpr ⟨pw_in pw_e_sk, ?_⟩
  refine List.forall_mem_append.mpr ⟨pw_in pw_e_ik, ?_⟩
  exact pw_in pw_e_vk
theorem pw_W_good : ∀ w ∈ pw_W, goodWord w = true := by
  unfold pw_W
  refine List.forall_mem_append.mpr ⟨List.all_eq_true.mp pw_g_lay, ?_⟩
  refine List.forall_mem_append.mpr ⟨List.all_eq_true.mp pw_g_fl, ?_⟩
  refine List.forall_mem_append.mpr ⟨List.all_eq_true.mp pw_g_st, ?_⟩
  refine List.forall_mem_append.mpr ⟨List.all_eq_true.mp pw_g_co, ?_⟩
  refine List.forall_mem_append.mpr ⟨List.all_eq_true.mp pw_g_nl, ?_⟩
  refine List.forall_mem_append.mpr ⟨List.all_eq_true.mp pw_g_ni, ?_⟩
  refine List.forall_mem_append.mpr ⟨List.all_eq_true.mp pw_g_in, ?_⟩
  refine List.forall_mem_append.mpr ⟨List.all_eq_true.mp pw_g_ar, ?_⟩
  refine List.forall_mem_append.mpr ⟨List.all_eq_true.mp pw_g_na, ?_⟩
  refine List.forall_mem_append.mpr ⟨List.all_eq_true.mp pw_g_ml, ?_⟩
  refine List.forall_mem_append.mpr ⟨pw_g_cd, ?_⟩
  refine List.forall_mem_append.mpr ⟨List.all_eq_true.mp pw_g_sk, ?_⟩
  refine List.forall_mem_append.mpr ⟨List.all_eq_true.mp pw_g_ik, ?_⟩
  exact List.all_eq_true.mp pw_g_vk
theorem pw_N_in : ∀ w ∈ pw_N, w ∈ lw_tbl := by
  unfold pw_N
  refine List.forall_mem_append.mpr ⟨pw_in pw_en_fl, ?_⟩
  refine List.forall_mem_append.mpr ⟨pw_in pw_en_st, ?_⟩
  refine List.forall_mem_append.mpr ⟨pw_in pw_en_ml, ?_⟩
  exact pw_in pw_en_ao
theorem pw_N_nw : ∀ w ∈ pw_N, am_nw_ w = true := by
  unfold pw_N
  refine List.forall_mem_append.mpr ⟨fun w hw => ?_, List.forall_mem_append.mpr ⟨fun w hw => ?_, List.forall_mem_append.mpr ⟨fun w hw => ?_, fun w hw => ?_⟩⟩⟩
  · obtain ⟨e, -, rfl⟩ := List.mem_map.mp hw; rfl
  · obtain ⟨e, -, rfl⟩ := List.mem_map.mp hw; rfl
  · obtain ⟨e, -, rfl⟩ := List.mem_map.mp hw; rfl
  · exact List.all_eq_true.mp (show pw_Nao.all am_nw_ = true from rfl) w hw

end

/-! 32.fast.lean.txt -/
section
/-! ===== printed by wip/gen/fastdec.py: decode, by the bytes in their order ===== -/
def pw_okq (b : ByteArray) (q : Nat × Instr) : Bool := match decode b q.1 with
  | .ok (i, n) => decide (i = q.2) && (Nat.beq (am_ln i) 0 || Nat.beq n (am_ln i))
  | .error _ => false
def fd_at (b : ByteArray) (p x : Nat) : Prop := ∃ h : p < b.size, (b[p]).toNat = x
section FD
variable {b : ByteArray} {p x y z n : Nat} {i : Instr} {l : List UInt8}
theorem fd_u1 (h : fd_at b p x) : (Reader.u1 : Decoder Nat) b p = Except.ok (x, p + 1) := by
  obtain ⟨h, e⟩ := h
  subst e
  show (dite (p < b.size) _ _ : Decoder Nat) b p = _
  rw [dif_pos h]
  rfl
theorem fd_u2 (h : fd_at b p x) (h2 : fd_at b (p + 1) y) : (Reader.u2 : Decoder Nat) b p = Except.ok (x * 256 + y, p + 2) := by
  show Except.bind ((Reader.u1 : Decoder Nat) b p) _ = _
  rw [fd_u1 h]
  show Except.bind ((Reader.u1 : Decoder Nat) b (p + 1)) _ = _
  rw [fd_u1 h2]
  rfl
theorem fd_s1 (h : fd_at b p x) : (Reader.s1 : Decoder Int) b p = Except.ok (Reader.signed 8 x, p + 1) := by
  show Except.bind ((Reader.u1 : Decoder Nat) b p) _ = _
  rw [fd_u1 h]
  rfl
theorem fd_s2 (h : fd_at b p x) (h2 : fd_at b (p + 1) y) : (Reader.s2 : Decoder Int) b p = Except.ok (Reader.signed 16 (x * 256 + y), p + 2) := by
  show Except.bind ((Reader.u2 : Decoder Nat) b p) _ = _
  rw [fd_u2 h h2]
  rfl
theorem fd_dec (h : (Decoder.instr p) b p = Except.ok (i, p + n)) : decode b p = .ok (i, n) := by
  show Except.bind ((Decoder.instr p) b p) _ = _
  rw [h]
  show Except.ok (i, p + n - p) = _
  rw [Nat.add_sub_cancel_left]
theorem fd_ok (h : decode b p = .ok (i, n)) (hn : (Nat.beq (am_ln i) 0 || Nat.beq n (am_ln i)) = true) : pw_okq b (p, i) = true := by
  show (match decode b p with | .ok (i', n) => decide (i' = i) && (Nat.beq (am_ln i') 0 || Nat.beq n (am_ln i')) | .error _ => false) = true
  rw [h]
  show (decide (i = i) && _) = true
  rw [decide_eq_true rfl, hn]
  rfl
theorem fd_o2 (h : fd_at b p 2) : (Decoder.instr p) b p = Except.ok ((.iconst (-1) : Instr), p + 1) := by
  show Except.bind ((Reader.u1 : Decoder Nat) b p) _ = _
  rw [fd_u1 h]
  rfl
theorem fd_o3 (h : fd_at b p 3) : (Decoder.instr p) b p = Except.ok ((.iconst (0) : Instr), p + 1) := by
  show Except.bind ((Reader.u1 : Decoder Nat) b p) _ = _
  rw [fd_u1 h]
  rfl
theorem fd_o4 (h : fd_at b p 4) : (Decoder.instr p) b p = Except.ok ((.iconst (1) : Instr), p + 1) := by
  show Except.bind ((Reader.u1 : Decoder Nat) b p) _ = _
  rw [fd_u1 h]
  rfl
theorem fd_o5 (h : fd_at b p 5) : (Decoder.instr p) b p = Except.ok ((.iconst (2) : Instr), p + 1) := by
  show Except.bind ((Reader.u1 : Decoder Nat) b p) _ = _
  rw [fd_u1 h]
  rfl
theorem fd_o6 (h : fd_at b p 6) : (Decoder.instr p) b p = Except.ok ((.iconst (3) : Instr), p + 1) := by
  show Except.bind ((Reader.u1 : Decoder Nat) b p) _ = _
  rw [fd_u1 h]
  rfl
theorem fd_o7 (h : fd_at b p 7) : (Decoder.instr p) b p = Except.ok ((.iconst (4) : Instr), p + 1) := by
  show Except.bind ((Reader.u1 : Decoder Nat) b p) _ = _
  rw [fd_u1 h]
  rfl
theorem fd_o8 (h : fd_at b p 8) : (Decoder.instr p) b p = Except.ok ((.iconst (5) : Instr), p + 1) := by
  show Except.bind ((Reader.u1 : Decoder Nat) b p) _ = _
  rw [fd_u1 h]
  rfl
theorem fd_o42 (h : fd_at b p 42) : (Decoder.instr p) b p = Except.ok ((.aload_n 0 : Instr), p + 1) := by
  show Except.bind ((Reader.u1 : Decoder Nat) b p) _ = _
  rw [fd_u1 h]
  rfl
theorem fd_o43 (h : fd_at b p 43) : (Decoder.instr p) b p = Except.ok ((.aload_n 1 : Instr), p + 1) := by
  show Except.bind ((Reader.u1 : Decoder Nat) b p) _ = _
  rw [fd_u1 h]
  rfl
theorem fd_o44 (h : fd_at b p 44) : (Decoder.instr p) b p = Except.ok ((.aload_n 2 : Instr), p + 1) := by
  show Except.bind ((Reader.u1 : Decoder Nat) b p) _ = _
  rw [fd_u1 h]
  rfl
theorem fd_o45 (h : fd_at b p 45) : (Decoder.instr p) b p = Except.ok ((.aload_n 3 : Instr), p + 1) := by
  show Except.bind ((Reader.u1 : Decoder Nat) b p) _ = _
  rw [fd_u1 h]
  rfl
theorem fd_o26 (h : fd_at b p 26) : (Decoder.instr p) b p = Except.ok ((.iload_n 0 : Instr), p + 1) := by
  show Except.bind ((Reader.u1 : Decoder Nat) b p) _ = _
  rw [fd_u1 h]
  rfl
theorem fd_o27 (h : fd_at b p 27) : (Decoder.instr p) b p = Except.ok ((.iload_n 1 : Instr), p + 1) := by
  show Except.bind ((Reader.u1 : Decoder Nat) b p) _ = _
  rw [fd_u1 h]
  rfl
theorem fd_o28 (h : fd_at b p 28) : (Decoder.instr p) b p = Except.ok ((.iload_n 2 : Instr), p + 1) := by
  show Except.bind ((Reader.u1 : Decoder Nat) b p) _ = _
  rw [fd_u1 h]
  rfl
theorem fd_o29 (h : fd_at b p 29) : (Decoder.instr p) b p = Except.ok ((.iload_n 3 : Instr), p + 1) := by
  show Except.bind ((Reader.u1 : Decoder Nat) b p) _ = _
  rw [fd_u1 h]
  rfl
theorem fd_o59 (h : fd_at b p 59) : (Decoder.instr p) b p = Except.ok ((.istore_n 0 : Instr), p + 1) := by
  show Except.bind ((Reader.u1 : Decoder Nat) b p) _ = _
  rw [fd_u1 h]
  rfl
theorem fd_o60 (h : fd_at b p 60) : (Decoder.instr p) b p = Except.ok ((.istore_n 1 : Instr), p + 1) := by
  show Except.bind ((Reader.u1 : Decoder Nat) b p) _ = _
  rw [fd_u1 h]
  rfl
theorem fd_o61 (h : fd_at b p 61) : (Decoder.instr p) b p = Except.ok ((.istore_n 2 : Instr), p + 1) := by
  show Except.bind ((Reader.u1 : Decoder Nat) b p) _ = _
  rw [fd_u1 h]
  rfl
theorem fd_o62 (h : fd_at b p 62) : (Decoder.instr p) b p = Except.ok ((.istore_n 3 : Instr), p + 1) := by
  show Except.bind ((Reader.u1 : Decoder Nat) b p) _ = _
  rw [fd_u1 h]
  rfl
theorem fd_o30 (h : fd_at b p 30) : (Decoder.instr p) b p = Except.ok ((.lload_n 0 : Instr), p + 1) := by
  show Except.bind ((Reader.u1 : Decoder Nat) b p) _ = _
  rw [fd_u1 h]
  rfl
theorem fd_o31 (h : fd_at b p 31) : (Decoder.instr p) b p = Except.ok ((.lload_n 1 : Instr), p + 1) := by
  show Except.bind ((Reader.u1 : Decoder Nat) b p) _ = _
  rw [fd_u1 h]
  rfl
theorem fd_o32 (h : fd_at b p 32) : (Decoder.instr p) b p = Except.ok ((.lload_n 2 : Instr), p + 1) := by
  show Except.bind ((Reader.u1 : Decoder Nat) b p) _ = _
  rw [fd_u1 h]
  rfl
theorem fd_o33 (h : fd_at b p 33) : (Decoder.instr p) b p = Except.ok ((.lload_n 3 : Instr), p + 1) := by
  show Except.bind ((Reader.u1 : Decoder Nat) b p) _ = _
  rw [fd_u1 h]
  rfl
theorem fd_o75 (h : fd_at b p 75) : (Decoder.instr p) b p = Except.ok ((.astore_n 0 : Instr), p + 1) := by
  show Except.bind ((Reader.u1 : Decoder Nat) b p) _ = _
  rw [fd_u1 h]
  rfl
theorem fd_o76 (h : fd_at b p 76) : (Decoder.instr p) b p = Except.ok ((.astore_n 1 : Instr), p + 1) := by
  show Except.bind ((Reader.u1 : Decoder Nat) b p) _ = _
  rw [fd_u1 h]
  rfl
theorem fd_o77 (h : fd_at b p 77) : (Decoder.instr p) b p = Except.ok ((.astore_n 2 : Instr), p + 1) := by
  show Except.bind ((Reader.u1 : Decoder Nat) b p) _ = _
  rw [fd_u1 h]
  rfl
theorem fd_o78 (h : fd_at b p 78) : (Decoder.instr p) b p = Except.ok ((.astore_n 3 : Instr), p + 1) := by
  show Except.bind ((Reader.u1 : Decoder Nat) b p) _ = _
  rw [fd_u1 h]
  rfl
theorem fd_o63 (h : fd_at b p 63) : (Decoder.instr p) b p = Except.ok ((.lstore_n 0 : Instr), p + 1) := by
  show Except.bind ((Reader.u1 : Decoder Nat) b p) _ = _
  rw [fd_u1 h]
  rfl
theorem fd_o64 (h : fd_at b p 64) : (Decoder.instr p) b p = Except.ok ((.lstore_n 1 : Instr), p + 1) := by
  show Except.bind ((Reader.u1 : Decoder Nat) b p) _ = _
  rw [fd_u1 h]
  rfl
theorem fd_o65 (h : fd_at b p 65) : (Decoder.instr p) b p = Except.ok ((.lstore_n 2 : Instr), p + 1) := by
  show Except.bind ((Reader.u1 : Decoder Nat) b p) _ = _
  rw [fd_u1 h]
  rfl
theorem fd_o66 (h : fd_at b p 66) : (Decoder.instr p) b p = Except.ok ((.lstore_n 3 : Instr), p + 1) := by
  show Except.bind ((Reader.u1 : Decoder Nat) b p) _ = _
  rw [fd_u1 h]
  rfl
theorem fd_o46 (h : fd_at b p 46) : (Decoder.instr p) b p = Except.ok ((.iaload : Instr), p + 1) := by
  show Except.bind ((Reader.u1 : Decoder Nat) b p) _ = _
  rw [fd_u1 h]
  rfl
theorem fd_o172 (h : fd_at b p 172) : (Decoder.instr p) b p = Except.ok ((.ireturn : Instr), p + 1) := by
  show Except.bind ((Reader.u1 : Decoder Nat) b p) _ = _
  rw [fd_u1 h]
  rfl
theorem fd_o96 (h : fd_at b p 96) : (Decoder.instr p) b p = Except.ok ((.iadd : Instr), p + 1) := by
  show Except.bind ((Reader.u1 : Decoder Nat) b p) _ = _
  rw [fd_u1 h]
  rfl
theorem fd_o100 (h : fd_at b p 100) : (Decoder.instr p) b p = Except.ok ((.isub : Instr), p + 1) := by
  show Except.bind ((Reader.u1 : Decoder Nat) b p) _ = _
  rw [fd_u1 h]
  rfl
theorem fd_o104 (h : fd_at b p 104) : (Decoder.instr p) b p = Except.ok ((.imul : Instr), p + 1) := by
  show Except.bind ((Reader.u1 : Decoder Nat) b p) _ = _
  rw [fd_u1 h]
  rfl
theorem fd_o108 (h : fd_at b p 108) : (Decoder.instr p) b p = Except.ok ((.idiv : Instr), p + 1) := by
  show Except.bind ((Reader.u1 : Decoder Nat) b p) _ = _
  rw [fd_u1 h]
  rfl
theorem fd_o79 (h : fd_at b p 79) : (Decoder.instr p) b p = Except.ok ((.iastore : Instr), p + 1) := by
  show Except.bind ((Reader.u1 : Decoder Nat) b p) _ = _
  rw [fd_u1 h]
  rfl
theorem fd_o89 (h : fd_at b p 89) : (Decoder.instr p) b p = Except.ok ((.dup : Instr), p + 1) := by
  show Except.bind ((Reader.u1 : Decoder Nat) b p) _ = _
  rw [fd_u1 h]
  rfl
theorem fd_o87 (h : fd_at b p 87) : (Decoder.instr p) b p = Except.ok ((.pop : Instr), p + 1) := by
  show Except.bind ((Reader.u1 : Decoder Nat) b p) _ = _
  rw [fd_u1 h]
  rfl
theorem fd_o177 (h : fd_at b p 177) : (Decoder.instr p) b p = Except.ok ((.return_ : Instr), p + 1) := by
  show Except.bind ((Reader.u1 : Decoder Nat) b p) _ = _
  rw [fd_u1 h]
  rfl
theorem fd_o50 (h : fd_at b p 50) : (Decoder.instr p) b p = Except.ok ((.aaload : Instr), p + 1) := by
  show Except.bind ((Reader.u1 : Decoder Nat) b p) _ = _
  rw [fd_u1 h]
  rfl
theorem fd_o128 (h : fd_at b p 128) : (Decoder.instr p) b p = Except.ok ((.ior : Instr), p + 1) := by
  show Except.bind ((Reader.u1 : Decoder Nat) b p) _ = _
  rw [fd_u1 h]
  rfl
theorem fd_o126 (h : fd_at b p 126) : (Decoder.instr p) b p = Except.ok ((.iand : Instr), p + 1) := by
  show Except.bind ((Reader.u1 : Decoder Nat) b p) _ = _
  rw [fd_u1 h]
  rfl
theorem fd_o133 (h : fd_at b p 133) : (Decoder.instr p) b p = Except.ok ((.i2l : Instr), p + 1) := by
  show Except.bind ((Reader.u1 : Decoder Nat) b p) _ = _
  rw [fd_u1 h]
  rfl
theorem fd_o92 (h : fd_at b p 92) : (Decoder.instr p) b p = Except.ok ((.dup2 : Instr), p + 1) := by
  show Except.bind ((Reader.u1 : Decoder Nat) b p) _ = _
  rw [fd_u1 h]
  rfl
theorem fd_o116 (h : fd_at b p 116) : (Decoder.instr p) b p = Except.ok ((.ineg : Instr), p + 1) := by
  show Except.bind ((Reader.u1 : Decoder Nat) b p) _ = _
  rw [fd_u1 h]
  rfl
theorem fd_o190 (h : fd_at b p 190) : (Decoder.instr p) b p = Except.ok ((.arraylength : Instr), p + 1) := by
  show Except.bind ((Reader.u1 : Decoder Nat) b p) _ = _
  rw [fd_u1 h]
  rfl
theorem fd_o21 (h : fd_at b p 21) (h1 : fd_at b (p + 1) y) : (Decoder.instr p) b p = Except.ok (Instr.iload y, p + 2) := by
  show Except.bind ((Reader.u1 : Decoder Nat) b p) _ = _
  rw [fd_u1 h]
  show Except.bind ((Reader.u1 : Decoder Nat) b (p + 1)) _ = _
  rw [fd_u1 h1]
  rfl
theorem fd_o54 (h : fd_at b p 54) (h1 : fd_at b (p + 1) y) : (Decoder.instr p) b p = Except.ok (Instr.istore y, p + 2) := by
  show Except.bind ((Reader.u1 : Decoder Nat) b p) _ = _
  rw [fd_u1 h]
  show Except.bind ((Reader.u1 : Decoder Nat) b (p + 1)) _ = _
  rw [fd_u1 h1]
  rfl
theorem fd_o18 (h : fd_at b p 18) (h1 : fd_at b (p + 1) y) : (Decoder.instr p) b p = Except.ok (Instr.ldc y, p + 2) := by
  show Except.bind ((Reader.u1 : Decoder Nat) b p) _ = _
  rw [fd_u1 h]
  show Except.bind ((Reader.u1 : Decoder Nat) b (p + 1)) _ = _
  rw [fd_u1 h1]
  rfl
theorem fd_o25 (h : fd_at b p 25) (h1 : fd_at b (p + 1) y) : (Decoder.instr p) b p = Except.ok (Instr.aload y, p + 2) := by
  show Except.bind ((Reader.u1 : Decoder Nat) b p) _ = _
  rw [fd_u1 h]
  show Except.bind ((Reader.u1 : Decoder Nat) b (p + 1)) _ = _
  rw [fd_u1 h1]
  rfl
theorem fd_o22 (h : fd_at b p 22) (h1 : fd_at b (p + 1) y) : (Decoder.instr p) b p = Except.ok (Instr.lload y, p + 2) := by
  show Except.bind ((Reader.u1 : Decoder Nat) b p) _ = _
  rw [fd_u1 h]
  show Except.bind ((Reader.u1 : Decoder Nat) b (p + 1)) _ = _
  rw [fd_u1 h1]
  rfl
theorem fd_o55 (h : fd_at b p 55) (h1 : fd_at b (p + 1) y) : (Decoder.instr p) b p = Except.ok (Instr.lstore y, p + 2) := by
  show Except.bind ((Reader.u1 : Decoder Nat) b p) _ = _
  rw [fd_u1 h]
  show Except.bind ((Reader.u1 : Decoder Nat) b (p + 1)) _ = _
  rw [fd_u1 h1]
  rfl
theorem fd_o16 (h : fd_at b p 16) (h1 : fd_at b (p + 1) y) : (Decoder.instr p) b p = Except.ok (Instr.bipush (Reader.signed 8 y), p + 2) := by
  show Except.bind ((Reader.u1 : Decoder Nat) b p) _ = _
  rw [fd_u1 h]
  show Except.bind ((Reader.s1 : Decoder Int) b (p + 1)) _ = _
  rw [fd_s1 h1]
  rfl
theorem fd_o132 (h : fd_at b p 132) (h1 : fd_at b (p + 1) y) (h2 : fd_at b (p + 2) z) : (Decoder.instr p) b p = Except.ok (Instr.iinc y (Reader.signed 8 z), p + 3) := by
  show Except.bind ((Reader.u1 : Decoder Nat) b p) _ = _
  rw [fd_u1 h]
  show Except.bind ((Reader.u1 : Decoder Nat) b (p + 1)) _ = _
  rw [fd_u1 h1]
  show Except.bind ((Reader.s1 : Decoder Int) b (p + 1 + 1)) _ = _
  rw [fd_s1 h2]
  rfl
theorem fd_o17 (h : fd_at b p 17) (h1 : fd_at b (p + 1) y) (h2 : fd_at b (p + 2) z) : (Decoder.instr p) b p = Except.ok (Instr.sipush (Reader.signed 16 (y * 256 + z)), p + 3) := by
  show Except.bind ((Reader.u1 : Decoder Nat) b p) _ = _
  rw [fd_u1 h]
  show Except.bind ((Reader.s2 : Decoder Int) b (p + 1)) _ = _
  rw [fd_s2 h1 h2]
  rfl
theorem fd_o167 (h : fd_at b p 167) (h1 : fd_at b (p + 1) y) (h2 : fd_at b (p + 2) z) : (Decoder.instr p) b p = Except.ok (Instr.goto (Reader.signed 16 (y * 256 + z)), p + 3) := by
  show Except.bind ((Reader.u1 : Decoder Nat) b p) _ = _
  rw [fd_u1 h]
  show Except.bind ((Reader.s2 : Decoder Int) b (p + 1)) _ = _
  rw [fd_s2 h1 h2]
  rfl
theorem fd_o153 (h : fd_at b p 153) (h1 : fd_at b (p + 1) y) (h2 : fd_at b (p + 2) z) : (Decoder.instr p) b p = Except.ok (Instr.ifCond .eq (Reader.signed 16 (y * 256 + z)), p + 3) := by
  show Except.bind ((Reader.u1 : Decoder Nat) b p) _ = _
  rw [fd_u1 h]
  show Except.bind ((Reader.s2 : Decoder Int) b (p + 1)) _ = _
  rw [fd_s2 h1 h2]
  rfl
theorem fd_o154 (h : fd_at b p 154) (h1 : fd_at b (p + 1) y) (h2 : fd_at b (p + 2) z) : (Decoder.instr p) b p = Except.ok (Instr.ifCond .ne (Reader.signed 16 (y * 256 + z)), p + 3) := by
  show Except.bind ((Reader.u1 : Decoder Nat) b p) _ = _
  rw [fd_u1 h]
  show Except.bind ((Reader.s2 : Decoder Int) b (p + 1)) _ = _
  rw [fd_s2 h1 h2]
  rfl
theorem fd_o155 (h : fd_at b p 155) (h1 : fd_at b (p + 1) y) (h2 : fd_at b (p + 2) z) : (Decoder.instr p) b p = Except.ok (Instr.ifCond .lt (Reader.signed 16 (y * 256 + z)), p + 3) := by
  show Except.bind ((Reader.u1 : Decoder Nat) b p) _ = _
  rw [fd_u1 h]
  show Except.bind ((Reader.s2 : Decoder Int) b (p + 1)) _ = _
  rw [fd_s2 h1 h2]
  rfl
theorem fd_o156 (h : fd_at b p 156) (h1 : fd_at b (p + 1) y) (h2 : fd_at b (p + 2) z) : (Decoder.instr p) b p = Except.ok (Instr.ifCond .ge (Reader.signed 16 (y * 256 + z)), p + 3) := by
  show Except.bind ((Reader.u1 : Decoder Nat) b p) _ = _
  rw [fd_u1 h]
  show Except.bind ((Reader.s2 : Decoder Int) b (p + 1)) _ = _
  rw [fd_s2 h1 h2]
  rfl
theorem fd_o157 (h : fd_at b p 157) (h1 : fd_at b (p + 1) y) (h2 : fd_at b (p + 2) z) : (Decoder.instr p) b p = Except.ok (Instr.ifCond .gt (Reader.signed 16 (y * 256 + z)), p + 3) := by
  show Except.bind ((Reader.u1 : Decoder Nat) b p) _ = _
  rw [fd_u1 h]
  show Except.bind ((Reader.s2 : Decoder Int) b (p + 1)) _ = _
  rw [fd_s2 h1 h2]
  rfl
theorem fd_o158 (h : fd_at b p 158) (h1 : fd_at b (p + 1) y) (h2 : fd_at b (p + 2) z) : (Decoder.instr p) b p = Except.ok (Instr.ifCond .le (Reader.signed 16 (y * 256 + z)), p + 3) := by
  show Except.bind ((Reader.u1 : Decoder Nat) b p) _ = _
  rw [fd_u1 h]
  show Except.bind ((Reader.s2 : Decoder Int) b (p + 1)) _ = _
  rw [fd_s2 h1 h2]
  rfl
theorem fd_o159 (h : fd_at b p 159) (h1 : fd_at b (p + 1) y) (h2 : fd_at b (p + 2) z) : (Decoder.instr p) b p = Except.ok (Instr.if_icmp .eq (Reader.signed 16 (y * 256 + z)), p + 3) := by
  show Except.bind ((Reader.u1 : Decoder Nat) b p) _ = _
  rw [fd_u1 h]
  show Except.bind ((Reader.s2 : Decoder Int) b (p + 1)) _ = _
  rw [fd_s2 h1 h2]
  rfl
theorem fd_o160 (h : fd_at b p 160) (h1 : fd_at b (p + 1) y) (h2 : fd_at b (p + 2) z) : (Decoder.instr p) b p = Except.ok (Instr.if_icmp .ne (Reader.signed 16 (y * 256 + z)), p + 3) := by
  show Except.bind ((Reader.u1 : Decoder Nat) b p) _ = _
  rw [fd_u1 h]
  show Except.bind ((Reader.s2 : Decoder Int) b (p + 1)) _ = _
  rw [fd_s2 h1 h2]
  rfl
theorem fd_o161 (h : fd_at b p 161) (h1 : fd_at b (p + 1) y) (h2 : fd_at b (p + 2) z) : (Decoder.instr p) b p = Except.ok (Instr.if_icmp .lt (Reader.signed 16 (y * 256 + z)), p + 3) := by
  show Except.bind ((Reader.u1 : Decoder Nat) b p) _ = _
  rw [fd_u1 h]
  show Except.bind ((Reader.s2 : Decoder Int) b (p + 1)) _ = _
  rw [fd_s2 h1 h2]
  rfl
theorem fd_o162 (h : fd_at b p 162) (h1 : fd_at b (p + 1) y) (h2 : fd_at b (p + 2) z) : (Decoder.instr p) b p = Except.ok (Instr.if_icmp .ge (Reader.signed 16 (y * 256 + z)), p + 3) := by
  show Except.bind ((Reader.u1 : Decoder Nat) b p) _ = _
  rw [fd_u1 h]
  show Except.bind ((Reader.s2 : Decoder Int) b (p + 1)) _ = _
  rw [fd_s2 h1 h2]
  rfl
theorem fd_o163 (h : fd_at b p 163) (h1 : fd_at b (p + 1) y) (h2 : fd_at b (p + 2) z) : (Decoder.instr p) b p = Except.ok (Instr.if_icmp .gt (Reader.signed 16 (y * 256 + z)), p + 3) := by
  show Except.bind ((Reader.u1 : Decoder Nat) b p) _ = _
  rw [fd_u1 h]
  show Except.bind ((Reader.s2 : Decoder Int) b (p + 1)) _ = _
  rw [fd_s2 h1 h2]
  rfl
theorem fd_o164 (h : fd_at b p 164) (h1 : fd_at b (p + 1) y) (h2 : fd_at b (p + 2) z) : (Decoder.instr p) b p = Except.ok (Instr.if_icmp .le (Reader.signed 16 (y * 256 + z)), p + 3) := by
  show Except.bind ((Reader.u1 : Decoder Nat) b p) _ = _
  rw [fd_u1 h]
  show Except.bind ((Reader.s2 : Decoder Int) b (p + 1)) _ = _
  rw [fd_s2 h1 h2]
  rfl
theorem fd_o180 (h : fd_at b p 180) (h1 : fd_at b (p + 1) y) (h2 : fd_at b (p + 2) z) : (Decoder.instr p) b p = Except.ok (Instr.getfield (y * 256 + z), p + 3) := by
  show Except.bind ((Reader.u1 : Decoder Nat) b p) _ = _
  rw [fd_u1 h]
  show Except.bind ((Reader.u2 : Decoder Nat) b (p + 1)) _ = _
  rw [fd_u2 h1 h2]
  rfl
theorem fd_o181 (h : fd_at b p 181) (h1 : fd_at b (p + 1) y) (h2 : fd_at b (p + 2) z) : (Decoder.instr p) b p = Except.ok (Instr.putfield (y * 256 + z), p + 3) := by
  show Except.bind ((Reader.u1 : Decoder Nat) b p) _ = _
  rw [fd_u1 h]
  show Except.bind ((Reader.u2 : Decoder Nat) b (p + 1)) _ = _
  rw [fd_u2 h1 h2]
  rfl
theorem fd_o182 (h : fd_at b p 182) (h1 : fd_at b (p + 1) y) (h2 : fd_at b (p + 2) z) : (Decoder.instr p) b p = Except.ok (Instr.invokevirtual (y * 256 + z), p + 3) := by
  show Except.bind ((Reader.u1 : Decoder Nat) b p) _ = _
  rw [fd_u1 h]
  show Except.bind ((Reader.u2 : Decoder Nat) b (p + 1)) _ = _
  rw [fd_u2 h1 h2]
  rfl
theorem fd_o183 (h : fd_at b p 183) (h1 : fd_at b (p + 1) y) (h2 : fd_at b (p + 2) z) : (Decoder.instr p) b p = Except.ok (Instr.invokespecial (y * 256 + z), p + 3) := by
  show Except.bind ((Reader.u1 : Decoder Nat) b p) _ = _
  rw [fd_u1 h]
  show Except.bind ((Reader.u2 : Decoder Nat) b (p + 1)) _ = _
  rw [fd_u2 h1 h2]
  rfl
theorem fd_o184 (h : fd_at b p 184) (h1 : fd_at b (p + 1) y) (h2 : fd_at b (p + 2) z) : (Decoder.instr p) b p = Except.ok (Instr.invokestatic (y * 256 + z), p + 3) := by
  show Except.bind ((Reader.u1 : Decoder Nat) b p) _ = _
  rw [fd_u1 h]
  show Except.bind ((Reader.u2 : Decoder Nat) b (p + 1)) _ = _
  rw [fd_u2 h1 h2]
  rfl
theorem fd_o19 (h : fd_at b p 19) (h1 : fd_at b (p + 1) y) (h2 : fd_at b (p + 2) z) : (Decoder.instr p) b p = Except.ok (Instr.ldc_w (y * 256 + z), p + 3) := by
  show Except.bind ((Reader.u1 : Decoder Nat) b p) _ = _
  rw [fd_u1 h]
  show Except.bind ((Reader.u2 : Decoder Nat) b (p + 1)) _ = _
  rw [fd_u2 h1 h2]
  rfl
theorem fd_o20 (h : fd_at b p 20) (h1 : fd_at b (p + 1) y) (h2 : fd_at b (p + 2) z) : (Decoder.instr p) b p = Except.ok (Instr.ldc2_w (y * 256 + z), p + 3) := by
  show Except.bind ((Reader.u1 : Decoder Nat) b p) _ = _
  rw [fd_u1 h]
  show Except.bind ((Reader.u2 : Decoder Nat) b (p + 1)) _ = _
  rw [fd_u2 h1 h2]
  rfl
theorem fd_o178 (h : fd_at b p 178) (h1 : fd_at b (p + 1) y) (h2 : fd_at b (p + 2) z) : (Decoder.instr p) b p = Except.ok (Instr.getstatic (y * 256 + z), p + 3) := by
  show Except.bind ((Reader.u1 : Decoder Nat) b p) _ = _
  rw [fd_u1 h]
  show Except.bind ((Reader.u2 : Decoder Nat) b (p + 1)) _ = _
  rw [fd_u2 h1 h2]
  rfl
theorem fd_o187 (h : fd_at b p 187) (h1 : fd_at b (p + 1) y) (h2 : fd_at b (p + 2) z) : (Decoder.instr p) b p = Except.ok (Instr.new (y * 256 + z), p + 3) := by
  show Except.bind ((Reader.u1 : Decoder Nat) b p) _ = _
  rw [fd_u1 h]
  show Except.bind ((Reader.u2 : Decoder Nat) b (p + 1)) _ = _
  rw [fd_u2 h1 h2]
  rfl
def fd_1 (l : List UInt8) (op : Nat) : Bool := match l with
  | x :: _ => Nat.beq x.toNat op
  | [] => false
def fd_2 (l : List UInt8) (op : Nat) (k : Nat → Bool) : Bool := match l with
  | x :: y :: _ => Nat.beq x.toNat op && k y.toNat
  | _ => false
def fd_3 (l : List UInt8) (op : Nat) (k : Nat → Nat → Bool) : Bool := match l with
  | x :: y :: z :: _ => Nat.beq x.toNat op && k y.toNat z.toNat
  | _ => false
theorem fd_by {w : UInt8} {k : Nat} (e : (b.data.toList.drop p)[k]? = some w) : fd_at b (p + k) w.toNat := by
  rw [List.getElem?_drop, Array.getElem?_toList, Array.getElem?_eq_some_iff] at e
  obtain ⟨h, rfl⟩ := e
  exact ⟨h, rfl⟩
theorem fd_1k {op : Nat} (h : fd_1 (b.data.toList.drop p) op = true) : fd_at b p op := by
  have e0 : ∀ w, (b.data.toList.drop p)[0]? = some w → fd_at b (p + 0) w.toNat := fun w e => fd_by e
  generalize b.data.toList.drop p = l at h e0
  match l, h with
  | x :: _, h =>
    have e := Nat.eq_of_beq_eq_true h
    subst e
    exact e0 x rfl
theorem fd_2k {op : Nat} {k : Nat → Bool} (h : fd_2 (b.data.toList.drop p) op k = true) : ∃ y, fd_at b p op ∧ fd_at b (p + 1) y ∧ k y = true := by
  have e0 : ∀ (j : Nat) w, (b.data.toList.drop p)[j]? = some w → fd_at b (p + j) w.toNat := fun j w e => fd_by e
  generalize b.data.toList.drop p = l at h e0
  match l, h with
  | x :: y :: _, h =>
    have h : (Nat.beq x.toNat op && k y.toNat) = true := h
    rw [Bool.and_eq_true] at h
    have e := Nat.eq_of_beq_eq_true h.1
    subst e
    exact ⟨y.toNat, e0 0 x rfl, e0 1 y rfl, h.2⟩
theorem fd_3k {op : Nat} {k : Nat → Nat → Bool} (h : fd_3 (b.data.toList.drop p) op k = true) : ∃ y z, fd_at b p op ∧ fd_at b (p + 1) y ∧ fd_at b (p + 2) z ∧ k y z = true := by
  have e0 : ∀ (j : Nat) w, (b.data.toList.drop p)[j]? = some w → fd_at b (p + j) w.toNat := fun j w e => fd_by e
  generalize b.data.toList.drop p = l at h e0
  match l, h with
  | x :: y :: z :: _, h =>
    have h : (Nat.beq x.toNat op && k y.toNat z.toNat) = true := h
    rw [Bool.and_eq_true] at h
    have e := Nat.eq_of_beq_eq_true h.1
    subst e
    exact ⟨y.toNat, z.toNat, e0 0 x rfl, e0 1 y rfl, e0 2 z rfl, h.2⟩
def fd_m (b : ByteArray) (p : Nat) (l : List UInt8) : Instr → Bool
  | .aload_n n => fd_1 l (42 + n.val)
  | .iload_n n => fd_1 l (26 + n.val)
  | .istore_n n => fd_1 l (59 + n.val)
  | .lload_n n => fd_1 l (30 + n.val)
  | .astore_n n => fd_1 l (75 + n.val)
  | .lstore_n n => fd_1 l (63 + n.val)
  | .iconst z => decide (-1 ≤ z) && (decide (z ≤ 5) && fd_1 l (z + 3).toNat)
  | .iaload => fd_1 l 46
  | .ireturn => fd_1 l 172
  | .iadd => fd_1 l 96
  | .isub => fd_1 l 100
  | .imul => fd_1 l 104
  | .idiv => fd_1 l 108
  | .iastore => fd_1 l 79
  | .dup => fd_1 l 89
  | .pop => fd_1 l 87
  | .return_ => fd_1 l 177
  | .aaload => fd_1 l 50
  | .ior => fd_1 l 128
  | .iand => fd_1 l 126
  | .i2l => fd_1 l 133
  | .dup2 => fd_1 l 92
  | .ineg => fd_1 l 116
  | .arraylength => fd_1 l 190
  | .iload n => fd_2 l 21 (fun y => Nat.beq y n)
  | .istore n => fd_2 l 54 (fun y => Nat.beq y n)
  | .ldc n => fd_2 l 18 (fun y => Nat.beq y n)
  | .aload n => fd_2 l 25 (fun y => Nat.beq y n)
  | .lload n => fd_2 l 22 (fun y => Nat.beq y n)
  | .lstore n => fd_2 l 55 (fun y => Nat.beq y n)
  | .bipush z => fd_2 l 16 (fun y => decide (Reader.signed 8 y = z))
  | .iinc n z => fd_3 l 132 (fun y w => Nat.beq y n && decide (Reader.signed 8 w = z))
  | .sipush z => fd_3 l 17 (fun y w => decide (Reader.signed 16 (y * 256 + w) = z))
  | .goto z => fd_3 l 167 (fun y w => decide (Reader.signed 16 (y * 256 + w) = z))
  | .ifCond .eq z => fd_3 l 153 (fun y w => decide (Reader.signed 16 (y * 256 + w) = z))
  | .ifCond .ne z => fd_3 l 154 (fun y w => decide (Reader.signed 16 (y * 256 + w) = z))
  | .ifCond .lt z => fd_3 l 155 (fun y w => decide (Reader.signed 16 (y * 256 + w) = z))
  | .ifCond .ge z => fd_3 l 156 (fun y w => decide (Reader.signed 16 (y * 256 + w) = z))
  | .ifCond .gt z => fd_3 l 157 (fun y w => decide (Reader.signed 16 (y * 256 + w) = z))
  | .ifCond .le z => fd_3 l 158 (fun y w => decide (Reader.signed 16 (y * 256 + w) = z))
  | .if_icmp .eq z => fd_3 l 159 (fun y w => decide (Reader.signed 16 (y * 256 + w) = z))
  | .if_icmp .ne z => fd_3 l 160 (fun y w => decide (Reader.signed 16 (y * 256 + w) = z))
  | .if_icmp .lt z => fd_3 l 161 (fun y w => decide (Reader.signed 16 (y * 256 + w) = z))
  | .if_icmp .ge z => fd_3 l 162 (fun y w => decide (Reader.signed 16 (y * 256 + w) = z))
  | .if_icmp .gt z => fd_3 l 163 (fun y w => decide (Reader.signed 16 (y * 256 + w) = z))
  | .if_icmp .le z => fd_3 l 164 (fun y w => decide (Reader.signed 16 (y * 256 + w) = z))
  | .getfield n => fd_3 l 180 (fun y w => Nat.beq (y * 256 + w) n)
  | .putfield n => fd_3 l 181 (fun y w => Nat.beq (y * 256 + w) n)
  | .invokevirtual n => fd_3 l 182 (fun y w => Nat.beq (y * 256 + w) n)
  | .invokespecial n => fd_3 l 183 (fun y w => Nat.beq (y * 256 + w) n)
  | .invokestatic n => fd_3 l 184 (fun y w => Nat.beq (y * 256 + w) n)
  | .ldc_w n => fd_3 l 19 (fun y w => Nat.beq (y * 256 + w) n)
  | .ldc2_w n => fd_3 l 20 (fun y w => Nat.beq (y * 256 + w) n)
  | .getstatic n => fd_3 l 178 (fun y w => Nat.beq (y * 256 + w) n)
  | .new n => fd_3 l 187 (fun y w => Nat.beq (y * 256 + w) n)
  | i => pw_okq b (p, i)
theorem fd_mk {i : Instr} (h : fd_m b p (b.data.toList.drop p) i = true) : pw_okq b (p, i) = true := by
  cases i with
  | aload_n n =>
    have h2 : fd_1 (b.data.toList.drop p) (42 + n.val) = true := h
    obtain ⟨k, hk⟩ := n
    have hc : k = 0 ∨ k = 1 ∨ k = 2 ∨ k = 3 := by omega
    rcases hc with rfl | rfl | rfl | rfl
    · exact fd_ok (fd_dec (fd_o42 (fd_1k h2))) rfl
    · exact fd_ok (fd_dec (fd_o43 (fd_1k h2))) rfl
    · exact fd_ok (fd_dec (fd_o44 (fd_1k h2))) rfl
    · exact fd_ok (fd_dec (fd_o45 (fd_1k h2))) rfl
  | iload_n n =>
    have h2 : fd_1 (b.data.toList.drop p) (26 + n.val) = true := h
    obtain ⟨k, hk⟩ := n
    have hc : k = 0 ∨ k = 1 ∨ k = 2 ∨ k = 3 := by omega
    rcases hc with rfl | rfl | rfl | rfl
    · exact fd_ok (fd_dec (fd_o26 (fd_1k h2))) rfl
    · exact fd_ok (fd_dec (fd_o27 (fd_1k h2))) rfl
    · exact fd_ok (fd_dec (fd_o28 (fd_1k h2))) rfl
    · exact fd_ok (fd_dec (fd_o29 (fd_1k h2))) rfl
  | istore_n n =>
    have h2 : fd_1 (b.data.toList.drop p) (59 + n.val) = true := h
    obtain ⟨k, hk⟩ := n
    have hc : k = 0 ∨ k = 1 ∨ k = 2 ∨ k = 3 := by omega
    rcases hc with rfl | rfl | rfl | rfl
    · exact fd_ok (fd_dec (fd_o59 (fd_1k h2))) rfl
    · exact fd_ok (fd_dec (fd_o60 (fd_1k h2))) rfl
    · exact fd_ok (fd_dec (fd_o61 (fd_1k h2))) rfl
    · exact fd_ok (fd_dec (fd_o62 (fd_1k h2))) rfl
  | lload_n n =>
    have h2 : fd_1 (b.data.toList.drop p) (30 + n.val) = true := h
    obtain ⟨k, hk⟩ := n
    have hc : k = 0 ∨ k = 1 ∨ k = 2 ∨ k = 3 := by omega
    rcases hc with rfl | rfl | rfl | rfl
    · exact fd_ok (fd_dec (fd_o30 (fd_1k h2))) rfl
    · exact fd_ok (fd_dec (fd_o31 (fd_1k h2))) rfl
    · exact fd_ok (fd_dec (fd_o32 (fd_1k h2))) rfl
    · exact fd_ok (fd_dec (fd_o33 (fd_1k h2))) rfl
  | astore_n n =>
    have h2 : fd_1 (b.data.toList.drop p) (75 + n.val) = true := h
    obtain ⟨k, hk⟩ := n
    have hc : k = 0 ∨ k = 1 ∨ k = 2 ∨ k = 3 := by omega
    rcases hc with rfl | rfl | rfl | rfl
    · exact fd_ok (fd_dec (fd_o75 (fd_1k h2))) rfl
    · exact fd_ok (fd_dec (fd_o76 (fd_1k h2))) rfl
    · exact fd_ok (fd_dec (fd_o77 (fd_1k h2))) rfl
    · exact fd_ok (fd_dec (fd_o78 (fd_1k h2))) rfl
  | lstore_n n =>
    have h2 : fd_1 (b.data.toList.drop p) (63 + n.val) = true := h
    obtain ⟨k, hk⟩ := n
    have hc : k = 0 ∨ k = 1 ∨ k = 2 ∨ k = 3 := by omega
    rcases hc with rfl | rfl | rfl | rfl
    · exact fd_ok (fd_dec (fd_o63 (fd_1k h2))) rfl
    · exact fd_ok (fd_dec (fd_o64 (fd_1k h2))) rfl
    · exact fd_ok (fd_dec (fd_o65 (fd_1k h2))) rfl
    · exact fd_ok (fd_dec (fd_o66 (fd_1k h2))) rfl
  | iconst z =>
    have h : (decide (-1 ≤ z) && (decide (z ≤ 5) && fd_1 (b.data.toList.drop p) (z + 3).toNat)) = true := h
    simp only [Bool.and_eq_true, decide_eq_true_eq] at h
    obtain ⟨h1, h2, h3⟩ := h
    have hc : z = -1 ∨ z = 0 ∨ z = 1 ∨ z = 2 ∨ z = 3 ∨ z = 4 ∨ z = 5 := by omega
    rcases hc with rfl | rfl | rfl | rfl | rfl | rfl | rfl
    · exact fd_ok (fd_dec (fd_o2 (fd_1k h3))) rfl
    · exact fd_ok (fd_dec (fd_o3 (fd_1k h3))) rfl
    · exact fd_ok (fd_dec (fd_o4 (fd_1k h3))) rfl
    · exact fd_ok (fd_dec (fd_o5 (fd_1k h3))) rfl
    · exact fd_ok (fd_dec (fd_o6 (fd_1k h3))) rfl
    · exact fd_ok (fd_dec (fd_o7 (fd_1k h3))) rfl
    · exact fd_ok (fd_dec (fd_o8 (fd_1k h3))) rfl
  | iaload =>
    exact fd_ok (fd_dec (fd_o46 (fd_1k h))) rfl
  | ireturn =>
    exact fd_ok (fd_dec (fd_o172 (fd_1k h))) rfl
  | iadd =>
    exact fd_ok (fd_dec (fd_o96 (fd_1k h))) rfl
  | isub =>
    exact fd_ok (fd_dec (fd_o100 (fd_1k h))) rfl
  | imul =>
    exact fd_ok (fd_dec (fd_o104 (fd_1k h))) rfl
  | idiv =>
    exact fd_ok (fd_dec (fd_o108 (fd_1k h))) rfl
  | iastore =>
    exact fd_ok (fd_dec (fd_o79 (fd_1k h))) rfl
  | dup =>
    exact fd_ok (fd_dec (fd_o89 (fd_1k h))) rfl
  | pop =>
    exact fd_ok (fd_dec (fd_o87 (fd_1k h))) rfl
  | return_ =>
    exact fd_ok (fd_dec (fd_o177 (fd_1k h))) rfl
  | aaload =>
    exact fd_ok (fd_dec (fd_o50 (fd_1k h))) rfl
  | ior =>
    exact fd_ok (fd_dec (fd_o128 (fd_1k h))) rfl
  | iand =>
    exact fd_ok (fd_dec (fd_o126 (fd_1k h))) rfl
  | i2l =>
    exact fd_ok (fd_dec (fd_o133 (fd_1k h))) rfl
  | dup2 =>
    exact fd_ok (fd_dec (fd_o92 (fd_1k h))) rfl
  | ineg =>
    exact fd_ok (fd_dec (fd_o116 (fd_1k h))) rfl
  | arraylength =>
    exact fd_ok (fd_dec (fd_o190 (fd_1k h))) rfl
  | iload n =>
    have h : fd_2 (b.data.toList.drop p) 21 (fun y => Nat.beq y n) = true := h
    obtain ⟨y, h1, h2, h3⟩ := fd_2k h
    have e := Nat.eq_of_beq_eq_true h3
    subst e
    exact fd_ok (fd_dec (fd_o21 h1 h2)) rfl
  | istore n =>
    have h : fd_2 (b.data.toList.drop p) 54 (fun y => Nat.beq y n) = true := h
    obtain ⟨y, h1, h2, h3⟩ := fd_2k h
    have e := Nat.eq_of_beq_eq_true h3
    subst e
    exact fd_ok (fd_dec (fd_o54 h1 h2)) rfl
  | ldc n =>
    have h : fd_2 (b.data.toList.drop p) 18 (fun y => Nat.beq y n) = true := h
    obtain ⟨y, h1, h2, h3⟩ := fd_2k h
    have e := Nat.eq_of_beq_eq_true h3
    subst e
    exact fd_ok (fd_dec (fd_o18 h1 h2)) rfl
  | aload n =>
    have h : fd_2 (b.data.toList.drop p) 25 (fun y => Nat.beq y n) = true := h
    obtain ⟨y, h1, h2, h3⟩ := fd_2k h
    have e := Nat.eq_of_beq_eq_true h3
    subst e
    exact fd_ok (fd_dec (fd_o25 h1 h2)) rfl
  | lload n =>
    have h : fd_2 (b.data.toList.drop p) 22 (fun y => Nat.beq y n) = true := h
    obtain ⟨y, h1, h2, h3⟩ := fd_2k h
    have e := Nat.eq_of_beq_eq_true h3
    subst e
    exact fd_ok (fd_dec (fd_o22 h1 h2)) rfl
  | lstore n =>
    have h : fd_2 (b.data.toList.drop p) 55 (fun y => Nat.beq y n) = true := h
    obtain ⟨y, h1, h2, h3⟩ := fd_2k h
    have e := Nat.eq_of_beq_eq_true h3
    subst e
    exact fd_ok (fd_dec (fd_o55 h1 h2)) rfl
  | bipush z =>
    have h : fd_2 (b.data.toList.drop p) 16 (fun y => decide (Reader.signed 8 y = z)) = true := h
    obtain ⟨y, h1, h2, h3⟩ := fd_2k h
    have e := of_decide_eq_true h3
    subst e
    exact fd_ok (fd_dec (fd_o16 h1 h2)) rfl
  | iinc n z =>
    have h : fd_3 (b.data.toList.drop p) 132 (fun y w => Nat.beq y n && decide (Reader.signed 8 w = z)) = true := h
    obtain ⟨y, w, h1, h2, h3, h4⟩ := fd_3k h
    rw [Bool.and_eq_true] at h4
    have e := Nat.eq_of_beq_eq_true h4.1
    have e2 := of_decide_eq_true h4.2
    subst e e2
    exact fd_ok (fd_dec (fd_o132 h1 h2 h3)) rfl
  | sipush z =>
    have h : fd_3 (b.data.toList.drop p) 17 (fun y w => decide (Reader.signed 16 (y * 256 + w) = z)) = true := h
    obtain ⟨y, w, h1, h2, h3, h4⟩ := fd_3k h
    have e := of_decide_eq_true h4
    subst e
    exact fd_ok (fd_dec (fd_o17 h1 h2 h3)) rfl
  | goto z =>
    have h : fd_3 (b.data.toList.drop p) 167 (fun y w => decide (Reader.signed 16 (y * 256 + w) = z)) = true := h
    obtain ⟨y, w, h1, h2, h3, h4⟩ := fd_3k h
    have e := of_decide_eq_true h4
    subst e
    exact fd_ok (fd_dec (fd_o167 h1 h2 h3)) rfl
  | ifCond c z =>
    cases c with
    | eq =>
      have h : fd_3 (b.data.toList.drop p) 153 (fun y w => decide (Reader.signed 16 (y * 256 + w) = z)) = true := h
      obtain ⟨y, w, h1, h2, h3, h4⟩ := fd_3k h
      have e := of_decide_eq_true h4
      subst e
      exact fd_ok (fd_dec (fd_o153 h1 h2 h3)) rfl
    | ne =>
      have h : fd_3 (b.data.toList.drop p) 154 (fun y w => decide (Reader.signed 16 (y * 256 + w) = z)) = true := h
      obtain ⟨y, w, h1, h2, h3, h4⟩ := fd_3k h
      have e := of_decide_eq_true h4
      subst e
      exact fd_ok (fd_dec (fd_o154 h1 h2 h3)) rfl
    | lt =>
      have h : fd_3 (b.data.toList.drop p) 155 (fun y w => decide (Reader.signed 16 (y * 256 + w) = z)) = true := h
      obtain ⟨y, w, h1, h2, h3, h4⟩ := fd_3k h
      have e := of_decide_eq_true h4
      subst e
      exact fd_ok (fd_dec (fd_o155 h1 h2 h3)) rfl
    | ge =>
      have h : fd_3 (b.data.toList.drop p) 156 (fun y w => decide (Reader.signed 16 (y * 256 + w) = z)) = true := h
      obtain ⟨y, w, h1, h2, h3, h4⟩ := fd_3k h
      have e := of_decide_eq_true h4
      subst e
      exact fd_ok (fd_dec (fd_o156 h1 h2 h3)) rfl
    | gt =>
      have h : fd_3 (b.data.toList.drop p) 157 (fun y w => decide (Reader.signed 16 (y * 256 + w) = z)) = true := h
      obtain ⟨y, w, h1, h2, h3, h4⟩ := fd_3k h
      have e := of_decide_eq_true h4
      subst e
      exact fd_ok (fd_dec (fd_o157 h1 h2 h3)) rfl
    | le =>
      have h : fd_3 (b.data.toList.drop p) 158 (fun y w => decide (Reader.signed 16 (y * 256 + w) = z)) = true := h
      obtain ⟨y, w, h1, h2, h3, h4⟩ := fd_3k h
      have e := of_decide_eq_true h4
      subst e
      exact fd_ok (fd_dec (fd_o158 h1 h2 h3)) rfl
  | if_icmp c z =>
    cases c with
    | eq =>
      have h : fd_3 (b.data.toList.drop p) 159 (fun y w => decide (Reader.signed 16 (y * 256 + w) = z)) = true := h
      obtain ⟨y, w, h1, h2, h3, h4⟩ := fd_3k h
      have e := of_decide_eq_true h4
      subst e
      exact fd_ok (fd_dec (fd_o159 h1 h2 h3)) rfl
    | ne =>
      have h : fd_3 (b.data.toList.drop p) 160 (fun y w => decide (Reader.signed 16 (y * 256 + w) = z)) = true := h
      obtain ⟨y, w, h1, h2, h3, h4⟩ := fd_3k h
      have e := of_decide_eq_true h4
      subst e
      exact fd_ok (fd_dec (fd_o160 h1 h2 h3)) rfl
    | lt =>
      have h : fd_3 (b.data.toList.drop p) 161 (fun y w => decide (Reader.signed 16 (y * 256 + w) = z)) = true := h
      obtain ⟨y, w, h1, h2, h3, h4⟩ := fd_3k h
      have e := of_decide_eq_true h4
      subst e
      exact fd_ok (fd_dec (fd_o161 h1 h2 h3)) rfl
    | ge =>
      have h : fd_3 (b.data.toList.drop p) 162 (fun y w => decide (Reader.signed 16 (y * 256 + w) = z)) = true := h
      obtain ⟨y, w, h1, h2, h3, h4⟩ := fd_3k h
      have e := of_decide_eq_true h4
      subst e
      exact fd_ok (fd_dec (fd_o162 h1 h2 h3)) rfl
    | gt =>
      have h : fd_3 (b.data.toList.drop p) 163 (fun y w => decide (Reader.signed 16 (y * 256 + w) = z)) = true := h
      obtain ⟨y, w, h1, h2, h3, h4⟩ := fd_3k h
      have e := of_decide_eq_true h4
      subst e
      exact fd_ok (fd_dec (fd_o163 h1 h2 h3)) rfl
    | le =>
      have h : fd_3 (b.data.toList.drop p) 164 (fun y w => decide (Reader.signed 16 (y * 256 + w) = z)) = true := h
      obtain ⟨y, w, h1, h2, h3, h4⟩ := fd_3k h
      have e := of_decide_eq_true h4
      subst e
      exact fd_ok (fd_dec (fd_o164 h1 h2 h3)) rfl
  | getfield n =>
    have h : fd_3 (b.data.toList.drop p) 180 (fun y w => Nat.beq (y * 256 + w) n) = true := h
    obtain ⟨y, w, h1, h2, h3, h4⟩ := fd_3k h
    have e := Nat.eq_of_beq_eq_true h4
    subst e
    exact fd_ok (fd_dec (fd_o180 h1 h2 h3)) rfl
  | putfield n =>
    have h : fd_3 (b.data.toList.drop p) 181 (fun y w => Nat.beq (y * 256 + w) n) = true := h
    obtain ⟨y, w, h1, h2, h3, h4⟩ := fd_3k h
    have e := Nat.eq_of_beq_eq_true h4
    subst e
    exact fd_ok (fd_dec (fd_o181 h1 h2 h3)) rfl
  | invokevirtual n =>
    have h : fd_3 (b.data.toList.drop p) 182 (fun y w => Nat.beq (y * 256 + w) n) = true := h
    obtain ⟨y, w, h1, h2, h3, h4⟩ := fd_3k h
    have e := Nat.eq_of_beq_eq_true h4
    subst e
    exact fd_ok (fd_dec (fd_o182 h1 h2 h3)) rfl
  | invokespecial n =>
    have h : fd_3 (b.data.toList.drop p) 183 (fun y w => Nat.beq (y * 256 + w) n) = true := h
    obtain ⟨y, w, h1, h2, h3, h4⟩ := fd_3k h
    have e := Nat.eq_of_beq_eq_true h4
    subst e
    exact fd_ok (fd_dec (fd_o183 h1 h2 h3)) rfl
  | invokestatic n =>
    have h : fd_3 (b.data.toList.drop p) 184 (fun y w => Nat.beq (y * 256 + w) n) = true := h
    obtain ⟨y, w, h1, h2, h3, h4⟩ := fd_3k h
    have e := Nat.eq_of_beq_eq_true h4
    subst e
    exact fd_ok (fd_dec (fd_o184 h1 h2 h3)) rfl
  | ldc_w n =>
    have h : fd_3 (b.data.toList.drop p) 19 (fun y w => Nat.beq (y * 256 + w) n) = true := h
    obtain ⟨y, w, h1, h2, h3, h4⟩ := fd_3k h
    have e := Nat.eq_of_beq_eq_true h4
    subst e
    exact fd_ok (fd_dec (fd_o19 h1 h2 h3)) rfl
  | ldc2_w n =>
    have h : fd_3 (b.data.toList.drop p) 20 (fun y w => Nat.beq (y * 256 + w) n) = true := h
    obtain ⟨y, w, h1, h2, h3, h4⟩ := fd_3k h
    have e := Nat.eq_of_beq_eq_true h4
    subst e
    exact fd_ok (fd_dec (fd_o20 h1 h2 h3)) rfl
  | getstatic n =>
    have h : fd_3 (b.data.toList.drop p) 178 (fun y w => Nat.beq (y * 256 + w) n) = true := h
    obtain ⟨y, w, h1, h2, h3, h4⟩ := fd_3k h
    have e := Nat.eq_of_beq_eq_true h4
    subst e
    exact fd_ok (fd_dec (fd_o178 h1 h2 h3)) rfl
  | new n =>
    have h : fd_3 (b.data.toList.drop p) 187 (fun y w => Nat.beq (y * 256 + w) n) = true := h
    obtain ⟨y, w, h1, h2, h3, h4⟩ := fd_3k h
    have e := Nat.eq_of_beq_eq_true h4
    subst e
    exact fd_ok (fd_dec (fd_o187 h1 h2 h3)) rfl
  | _ => exact h
def fd_f (l : List UInt8) (k : List UInt8 → Bool) : Bool := match l with
  | [] => false
  | x :: t => k (x :: t)
def fd_go (b : ByteArray) : List (Nat × Instr) → Nat → List UInt8 → Bool
  | [], _, _ => true
  | q :: r, c, l => Nat.ble c q.1 && fd_f (l.drop (q.1 - c)) (fun l' => fd_m b q.1 l' q.2 && fd_go b r q.1 l')
theorem fd_gok : ∀ {qs : List (Nat × Instr)} {c : Nat}, fd_go b qs c (b.data.toList.drop c) = true → ∀ q ∈ qs, pw_okq b q = true := by
  intro qs
  induction qs with
  | nil => intro c _ q hq; cases hq
  | cons q r ih =>
    intro c h q' hq'
    have h : (Nat.ble c q.1 && fd_f ((b.data.toList.drop c).drop (q.1 - c)) (fun l' => fd_m b q.1 l' q.2 && fd_go b r q.1 l')) = true := h
    rw [Bool.and_eq_true, List.drop_drop] at h
    have h1 : c ≤ q.1 := Nat.le_of_ble_eq_true h.1
    have e : c + (q.1 - c) = q.1 := by omega
    rw [e] at h
    have h2 := h.2
    have h3 : (fd_m b q.1 (b.data.toList.drop q.1) q.2 && fd_go b r q.1 (b.data.toList.drop q.1)) = true := by
      generalize b.data.toList.drop q.1 = l at h2
      match l, h2 with
      | x :: t, h2 => exact h2
    rw [Bool.and_eq_true] at h3
    rcases List.mem_cons.mp hq' with rfl | hq'
    · exact fd_mk h3.1
    · exact ih h3.2 q' hq'
theorem fd_all {qs : List (Nat × Instr)} (h : fd_go b qs 0 b.data.toList = true) : qs.all (pw_okq b) = true := List.all_eq_true.mpr (fd_gok (c := 0) h)
end FD

end

/-! 33.decode.lean.txt -/
section
def pw_okd (mi : Nat) : Bool := (am_g2 pw_code_l [] mi).all (pw_okq (am_g2 pw_cc_l ByteArray.empty mi))
def pw_fdd (mi : Nat) : Bool := fd_go (am_g2 pw_cc_l ByteArray.empty mi) (am_g2 pw_code_l [] mi) 0 (am_g2 pw_cc_l ByteArray.empty mi).data.toList
theorem pw_fdo {mi : Nat} (h : pw_fdd mi = true) : pw_okd mi = true := fd_all h
set_option maxRecDepth 1000000 in
theorem pw_okd_0 : (List.range' 0 1).all pw_fdd = true := by decide +kernel
set_option maxRecDepth 1000000 in
theorem pw_okd_1 : (List.range' 1 10).all pw_fdd = true := by decide +kernel
set_option maxRecDepth 1000000 in
theorem pw_okd_11 : (List.range' 11 10).all pw_fdd = true := by decide +kernel
set_option maxRecDepth 1000000 in
theorem pw_okd_21 : (List.range' 21 10).all pw_fdd = true := by decide +kernel
set_option maxRecDepth 1000000 in
theorem pw_okd_31 : (List.range' 31 10).all pw_fdd = true := by decide +kernel
set_option maxRecDepth 1000000 in
theorem pw_okd_41 : (List.range' 41 10).all pw_fdd = true := by decide +kernel
set_option maxRecDepth 1000000 in
theorem pw_okd_51 : (List.range' 51 10).all pw_fdd = true := by decide +kernel
set_option maxRecDepth 1000000 in
theorem pw_okd_61 : (List.range' 61 10).all pw_fdd = true := by decide +kernel
set_option maxRecDepth 1000000 in
theorem pw_okd_71 : (List.range' 71 10).all pw_fdd = true := by decide +kernel
set_option maxRecDepth 1000000 in
theorem pw_okd_81 : (List.range' 81 10).all pw_fdd = true := by decide +kernel
set_option maxRecDepth 1000000 in
theorem pw_okd_91 : (List.range' 91 10).all pw_fdd = true := by decide +kernel
set_option maxRecDepth 1000000 in
theorem pw_okd_101 : (List.range' 101 10).all pw_fdd = true := by decide +kernel
set_option maxRecDepth 1000000 in
theorem pw_okd_111 : (List.range' 111 10).all pw_fdd = true := by decide +kernel
set_option maxRecDepth 1000000 in
theorem pw_okd_121 : (List.range' 121 10).all pw_fdd = true := by decide +kernel
set_option maxRecDepth 1000000 in
theorem pw_okd_131 : (List.range' 131 10).all pw_fdd = true := by decide +kernel
set_option maxRecDepth 1000000 in
theorem pw_okd_141 : (List.range' 141 10).all pw_fdd = true := by decide +kernel
set_option maxRecDepth 1000000 in
theorem pw_okd_151 : (List.range' 151 10).all pw_fdd = true := by decide +kernel
set_option maxRecDepth 1000000 in
theorem pw_okd_161 : (List.range' 161 10).all pw_fdd = true := by decide +kernel
set_option maxRecDepth 1000000 in
theorem pw_okd_171 : (List.range' 171 10).all pw_fdd = true := by decide +kernel
set_option maxRecDepth 1000000 in
theorem pw_okd_181 : (List.range' 181 10).all pw_fdd = true := by decide +kernel
set_option maxRecDepth 1000000 in
theorem pw_okd_191 : (List.range' 191 10).all pw_fdd = true := by decide +kernel
set_option maxRecDepth 1000000 in
theorem pw_okd_201 : (List.range' 201 10).all pw_fdd = true := by decide +kernel
set_option maxRecDepth 1000000 in
theorem pw_okd_211 : (List.range' 211 10).all pw_fdd = true := by decide +kernel
set_option maxRecDepth 1000000 in
theorem pw_okd_221 : (List.range' 221 10).all pw_fdd = true := by decide +kernel
set_option maxRecDepth 1000000 in
theorem pw_okd_231 : (List.range' 231 10).all pw_fdd = true := by decide +kernel
set_option maxRecDepth 1000000 in
theorem pw_okd_241 : (List.range' 241 10).all pw_fdd = true := by decide +kernel
set_option maxRecDepth 1000000 in
theorem pw_okd_251 : (List.range' 251 10).all pw_fdd = true := by decide +kernel
set_option maxRecDepth 1000000 in
theorem pw_okd_261 : (List.range' 261 10).all pw_fdd = true := by decide +kernel
set_option maxRecDepth 1000000 in
theorem pw_okd_271 : (List.range' 271 10).all pw_fdd = true := by decide +kernel
set_option maxRecDepth 1000000 in
theorem pw_okd_281 : (List.range' 281 10).all pw_fdd = true := by decide +kernel
set_option maxRecDepth 1000000 in
theorem pw_okd_291 : (List.range' 291 10).all pw_fdd = true := by decide +kernel
set_option maxRecDepth 1000000 in
theorem pw_okd_301 : (List.range' 301 10).all pw_fdd = true := by decide +kernel
set_option maxRecDepth 1000000 in
theorem pw_okd_311 : (List.range' 311 10).all pw_fdd = true := by decide +kernel
set_option maxRecDepth 1000000 in
theorem pw_okd_321 : (List.range' 321 10).all pw_fdd = true := by decide +kernel
set_option maxRecDepth 1000000 in
theorem pw_okd_331 : (List.range' 331 8).all pw_fdd = true := by decide +kernel
theorem am_g2_out {α : Type} (l : List (List α)) (d : α) {k : Nat} (h : 18 * l.length ≤ k) : am_g2 l d k = d := by
  unfold am_g2
  have h1 : l.getD (k / 18) [] = [] := by
    rw [List.getD_eq_getElem?_getD, List.getElem?_eq_none (by omega)]
    rfl
  rw [h1]
  rfl
theorem pw_rng {f : Nat → Bool} {a n k : Nat} (h : (List.range' a n).all f = true) (h1 : a ≤ k) (h2 : k < a + n) : f k = true := List.all_eq_true.mp h k (List.mem_range'_1.mpr ⟨h1, h2⟩)
theorem pw_okd_all {mi : Nat} (h : mi < 339) : pw_okd mi = true := by
  by_cases h0 : mi < 1
  · exact pw_fdo (pw_rng pw_okd_0 (by omega) h0)
  by_cases h1 : mi < 11
  · exact pw_fdo (pw_rng pw_okd_1 (by omega) h1)
  by_cases h11 : mi < 21
  · exact pw_fdo (pw_rng pw_okd_11 (by omega) h11)
  by_cases h21 : mi < 31
  · exact pw_fdo (pw_rng pw_okd_21 (by omega) h21)
  by_cases h31 : mi < 41
  · exact pw_fdo (pw_rng pw_okd_31 (by omega) h31)
  by_cases h41 : mi < 51
  · exact pw_fdo (pw_rng pw_okd_41 (by omega) h41)
  by_cases h51 : mi < 61
  · exact pw_fdo (pw_rng pw_okd_51 (by omega) h51)
  by_cases h61 : mi < 71
  · exact pw_fdo (pw_rng pw_okd_61 (by omega) h61)
  by_cases h71 : mi < 81
  · exact pw_fdo (pw_rng pw_okd_71 (by omega) h71)
  by_cases h81 : mi < 91
  · exact pw_fdo (pw_rng pw_okd_81 (by omega) h81)
  by_cases h91 : mi < 101
  · exact pw_fdo (pw_rng pw_okd_91 (by omega) h91)
  by_cases h101 : mi < 111
  · exact pw_fdo (pw_rng pw_okd_101 (by omega) h101)
  by_cases h111 : mi < 121
  · exact pw_fdo (pw_rng pw_okd_111 (by omega) h111)
  by_cases h121 : mi < 131
  · exact pw_fdo (pw_rng pw_okd_121 (by omega) h121)
  by_cases h131 : mi < 141
  · exact pw_fdo (pw_rng pw_okd_131 (by omega) h131)
  by_cases h141 : mi < 151
  · exact pw_fdo (pw_rng pw_okd_141 (by omega) h141)
  by_cases h151 : mi < 161
  · exact pw_fdo (pw_rng pw_okd_151 (by omega) h151)
  by_cases h161 : mi < 171
  · exact pw_fdo (pw_rng pw_okd_161 (by omega) h161)
  by_cases h171 : mi < 181
  · exact pw_fdo (pw_rng pw_okd_171 (by omega) h171)
  by_cases h181 : mi < 191
  · exact pw_fdo (pw_rng pw_okd_181 (by omega) h181)
  by_cases h191 : mi < 201
  · exact pw_fdo (pw_rng pw_okd_191 (by omega) h191)
  by_cases h201 : mi < 211
  · exact pw_fdo (pw_rng pw_okd_201 (by omega) h201)
  by_cases h211 : mi < 221
  · exact pw_fdo (pw_rng pw_okd_211 (by omega) h211)
  by_cases h221 : mi < 231
  · exact pw_fdo (pw_rng pw_okd_221 (by omega) h221)
  by_cases h231 : mi < 241
  · exact pw_fdo (pw_rng pw_okd_231 (by omega) h231)
  by_cases h241 : mi < 251
  · exact pw_fdo (pw_rng pw_okd_241 (by omega) h241)
  by_cases h251 : mi < 261
  · exact pw_fdo (pw_rng pw_okd_251 (by omega) h251)
  by_cases h261 : mi < 271
  · exact pw_fdo (pw_rng pw_okd_261 (by omega) h261)
  by_cases h271 : mi < 281
  · exact pw_fdo (pw_rng pw_okd_271 (by omega) h271)
  by_cases h281 : mi < 291
  · exact pw_fdo (pw_rng pw_okd_281 (by omega) h281)
  by_cases h291 : mi < 301
  · exact pw_fdo (pw_rng pw_okd_291 (by omega) h291)
  by_cases h301 : mi < 311
  · exact pw_fdo (pw_rng pw_okd_301 (by omega) h301)
  by_cases h311 : mi < 321
  · exact pw_fdo (pw_rng pw_okd_311 (by omega) h311)
  by_cases h321 : mi < 331
  · exact pw_fdo (pw_rng pw_okd_321 (by omega) h321)
  by_cases h331 : mi < 339
  · exact pw_fdo (pw_rng pw_okd_331 (by omega) h331)
  omega
theorem pw_code_lt {mi pc : Nat} {ins : Instr} (h : pw_code mi pc = some ins) : mi < 339 := by
  by_cases hm : mi < 339
  · exact hm
  · by_cases ht : 342 ≤ mi
    · unfold pw_code at h
      rw [am_g2_out pw_code_l [] (show 18 * pw_code_l.length ≤ mi from ht)] at h
      cases h
    · have hc : mi = 339 ∨ mi = 340 ∨ mi = 341 := by omega
      rcases hc with rfl | rfl | rfl <;> cases h
theorem pw_G1 (L : Nat) (xs : Nat → Int32) : am_G1 (pw_P L xs) pw_B := by
  intro mi pc ins h
  replace h : pw_code mi pc = some ins := h
  have hl := pw_code_lt h
  have hk := pw_okd_all hl
  unfold pw_okd at hk
  have hq := List.all_eq_true.mp hk _ (am_fdm h)
  unfold pw_okq at hq
  dsimp only at hq
  split at hq
  · rename_i i n hd
    simp only [Bool.and_eq_true, Bool.or_eq_true, decide_eq_true_eq] at hq
    obtain ⟨rfl, hn⟩ := hq
    exact ⟨n, hd, hn.imp Nat.eq_of_beq_eq_true Nat.eq_of_beq_eq_true⟩
  · cases hq

end

/-! 34.good.lean.txt -/
section
theorem pw_kl_eq {ci : Nat} (h : ci < 10) : pw_kl[ci]? = some (pw_cn ci, pw_T ci, (pw_fld_d.getD ci []).length) := by
  have hc : ci = 0 ∨ ci = 1 ∨ ci = 2 ∨ ci = 3 ∨ ci = 4 ∨ ci = 5 ∨ ci = 6 ∨ ci = 7 ∨ ci = 8 ∨ ci = 9 := by omega
  rcases hc with rfl | rfl | rfl | rfl | rfl | rfl | rfl | rfl | rfl | rfl <;> rfl
theorem pw_kl_lt {ci : Nat} {r : vw_C} (h : pw_kl[ci]? = some r) : ci < 10 := (List.getElem?_eq_some_iff.mp h).1
def pw_okf (ci : Nat) : Bool := (List.range ((pw_fld_d.getD ci []).length)).all (fun k => decide (parseFieldDescriptor (pw_T ci k).2.2.1 = some (pw_fty ci k)) && (decide ((pw_T ci k).2.2.2 = pw_fin ci k) && decide ((pw_T ci k).1 = pw_cn ci))) && (List.range ((pw_fld_d.getD ci []).length)).all (fun a => (List.range ((pw_fld_d.getD ci []).length)).all (fun b => Nat.beq a b || !decide ((pw_T ci a).2.1 = (pw_T ci b).2.1)))
set_option maxRecDepth 100000 in
theorem pw_okf_all : (List.range 10).all pw_okf = true := by decide +kernel
theorem pw_G2 (L : Nat) (xs : Nat → Int32) : am_G2 (pw_P L xs) pw_B := by
  intro ci r h
  have hl := pw_kl_lt h
  have hr : r = (pw_cn ci, pw_T ci, (pw_fld_d.getD ci []).length) := Option.some.inj (h.symm.trans (pw_kl_eq hl))
  subst hr
  have hk := List.all_eq_true.mp pw_okf_all ci (List.mem_range.mpr hl)
  unfold pw_okf at hk
  rw [Bool.and_eq_true] at hk
  refine ⟨rfl, fun w hw => pw_m_lay ?_, fun k hk2 => ?_, fun a ha b hb hne => ?_⟩
  · exact List.mem_flatten.mpr ⟨_, List.mem_map.mpr ⟨ci, List.mem_range.mpr hl, rfl⟩, hw⟩
  · have h1 := List.all_eq_true.mp hk.1 k (List.mem_range.mpr hk2)
    simp only [Bool.and_eq_true, decide_eq_true_eq] at h1
    exact h1
  · have h1 := List.all_eq_true.mp (List.all_eq_true.mp hk.2 a (List.mem_range.mpr ha)) b (List.mem_range.mpr hb)
    simp only [Bool.or_eq_true, Bool.not_eq_true', decide_eq_false_iff_not] at h1
    exact h1.elim (fun q => absurd (Nat.eq_of_beq_eq_true q) hne) id
def pw_ok3 (o : Nat) : Bool := (pw_fld_l.getD o []).all (fun q => decide (q.2.1 < 10) && (decide (q.2.2 < (pw_fld_d.getD q.2.1 []).length) && (decide ((o, q.1, q.2.1, q.2.2) ∈ pw_fe) || (decide (o ≠ q.2.1) && pw_fn.any (fun e => decide ((e.1, e.2.1, e.2.2.1, e.2.2.2.1) = (o, q.1, q.2.1, q.2.2)))))))
set_option maxRecDepth 100000 in
theorem pw_ok3_all : (List.range 16).all pw_ok3 = true := by decide +kernel
theorem pw_getD {α : Type} {l : List (List α)} {o : Nat} {x : α} (h : x ∈ l.getD o []) : o < l.length := by
  by_cases ho : o < l.length
  · exact ho
  · rw [List.getD_eq_getElem?_getD, List.getElem?_eq_none (by omega)] at h
    cases h
theorem pw_G3 (L : Nat) (xs : Nat → Int32) : am_G3 (pw_P L xs) pw_B := by
  intro o i ci k h
  have hm := am_fdm (show am_fd (pw_fld_l.getD o []) i = some (ci, k) from h)
  have ho : o < 16 := pw_getD hm
  have hk := List.all_eq_true.mp (List.all_eq_true.mp pw_ok3_all o (List.mem_range.mpr ho)) _ hm
  simp only [Bool.and_eq_true, Bool.or_eq_true, decide_eq_true_eq] at hk
  obtain ⟨h1, h2, h3⟩ := hk
  refine ⟨_, pw_kl_eq h1, h2, ?_⟩
  rcases h3 with h3 | ⟨h3, h4⟩
  · exact Or.inl (pw_m_fl (List.mem_map.mpr ⟨_, h3, rfl⟩))
  · obtain ⟨e, he, hq⟩ := List.any_eq_true.mp h4
    have hq := of_decide_eq_true hq
    obtain ⟨e1, e2, e3, e4, e5⟩ := e
    cases hq
    exact Or.inr ⟨h3, e5, pw_n_fl (List.mem_map.mpr ⟨_, he, rfl⟩)⟩
def pw_ok4 (o : Nat) : Bool := (pw_sta_l.getD o []).all (fun q => decide (1 ≤ q.2) && (decide (q.2 - 1 < pw_S.length) && (decide ((o, q.1, q.2) ∈ pw_se) || pw_sn.any (fun e => decide ((e.1, e.2.1, e.2.2.1) = (o, q.1, q.2))))))
set_option maxRecDepth 100000 in
theorem pw_ok4_all : (List.range 16).all pw_ok4 = true := by decide +kernel
theorem pw_G4 (L : Nat) (xs : Nat → Int32) : am_G4 (pw_P L xs) pw_B := by
  intro o i c h
  have hm := am_fdm (show am_fd (pw_sta_l.getD o []) i = some c from h)
  have ho : o < 16 := pw_getD hm
  have hk := List.all_eq_true.mp (List.all_eq_true.mp pw_ok4_all o (List.mem_range.mpr ho)) _ hm
  simp only [Bool.and_eq_true, Bool.or_eq_true, decide_eq_true_eq] at hk
  obtain ⟨h1, h2, h3⟩ := hk
  refine ⟨c - 1, pw_S.getD (c - 1) ("", "", ""), by omega, ?_, ?_⟩
  · show pw_S[c - 1]? = _
    rw [List.getD_eq_getElem?_getD, List.getElem?_eq_getElem h2]
    rfl
  · rcases h3 with h3 | h4
    · exact Or.inl (pw_m_st (List.mem_map.mpr ⟨_, h3, rfl⟩))
    · obtain ⟨e, he, hq⟩ := List.any_eq_true.mp h4
      have hq := of_decide_eq_true hq
      obtain ⟨e1, e2, e3, e4⟩ := e
      cases hq
      exact Or.inr ⟨e4, pw_n_st (List.mem_map.mpr ⟨_, he, rfl⟩)⟩
def pw_ok5 (o : Nat) : Bool := (pw_con_l.getD o []).all (fun q => match q.2 with
  | .int x => decide (Cond.constant (pw_cn o) q.1 x ∈ pw_Wco)
  | .long x => decide (Cond.constantLong (pw_cn o) q.1 x ∈ pw_Wco)
  | .float x => decide (Cond.constantFloat (pw_cn o) q.1 x ∈ pw_Wco)
  | .double x => decide (Cond.constantDouble (pw_cn o) q.1 x ∈ pw_Wco)
  | _ => true)
set_option maxRecDepth 100000 in
theorem pw_ok5_all : (List.range 16).all pw_ok5 = true := by decide +kernel
theorem pw_G5 (L : Nat) (xs : Nat → Int32) : am_G5 (pw_P L xs) pw_B := by
  intro o i v h
  have hm := am_fdm (show am_fd (pw_con_l.getD o []) i = some v from h)
  have ho : o < 16 := pw_getD hm
  have hk := List.all_eq_true.mp (List.all_eq_true.mp pw_ok5_all o (List.mem_range.mpr ho)) _ hm
  cases v with
  | int x => exact pw_m_co (of_decide_eq_true hk)
  | long x => exact pw_m_co (of_decide_eq_true hk)
  | float x => exact pw_m_co (of_decide_eq_true hk)
  | double x => exact pw_m_co (of_decide_eq_true hk)
  | null => exact trivial
  | ref a => exact trivial
  | retAddr a => exact trivial
def pw_ok6 (o : Nat) : Bool := (pw_new_l.getD o []).all (fun q => decide (q.2.1 < 10) && (decide (Cond.classLink (pw_cn o) q.1 (pw_cn q.2.1) ∈ pw_Wnl) && (decide (Cond.instantiable (pw_cn q.2.1) (pw_fld_d.getD q.2.1 []).length ∈ pw_Wni) && (decide (Cond.initialized (pw_cn q.2.1) ∈ pw_Win) && (decide (q.2.2.length = (pw_fld_d.getD q.2.1 []).length) && (List.range ((pw_fld_d.getD q.2.1 []).length)).all (fun j => decide (defaultValue (pw_fty q.2.1 j) = vp_V q.2.2 j)))))))
set_option maxRecDepth 100000 in
theorem pw_ok6_all : (List.range 16).all pw_ok6 = true := by decide +kernel
theorem pw_G6 (L : Nat) (xs : Nat → Int32) : am_G6 (pw_P L xs) pw_B := by
  intro o i ci fs h
  have hm := am_fdm (show am_fd (pw_new_l.getD o []) i = some (ci, fs) from h)
  have ho : o < 16 := pw_getD hm
  have hk := List.all_eq_true.mp (List.all_eq_true.mp pw_ok6_all o (List.mem_range.mpr ho)) _ hm
  simp only [Bool.and_eq_true, decide_eq_true_eq] at hk
  obtain ⟨h1, h2, h3, h4, h5, h6⟩ := hk
  exact ⟨_, pw_kl_eq h1, pw_m_nl h2, pw_m_ni h3, pw_m_in h4, h5, fun j hj => of_decide_eq_true (List.all_eq_true.mp h6 j (List.mem_range.mpr hj))⟩
theorem pw_G7 : am_G7 pw_B := ⟨pw_m_ar (by decide +kernel), pw_m_ar (by decide +kernel), rfl, rfl⟩
def pw_ok8 (o : Nat) : Bool := (pw_anw_l.getD o []).all (fun q => decide (2 ≤ q.2) && (decide (q.2 < 5) && (decide (Cond.classLink (pw_cn o) q.1 (pw_cn (pw_elt q.2)) ∈ pw_War) && decide (Cond.arrayOver (.object (pw_cn (pw_elt q.2))) ∈ pw_Nao))))
set_option maxRecDepth 100000 in
theorem pw_ok8_all : (List.range 16).all pw_ok8 = true := by decide +kernel
theorem pw_elt_ok {t : Nat} (h1 : 2 ≤ t) (h2 : t < 5) : pw_elt t < 10 ∧ pw_ty[t]? = some (.object (pw_cn (pw_elt t))) := by
  have hc : t = 2 ∨ t = 3 ∨ t = 4 := by omega
  rcases hc with rfl | rfl | rfl <;> exact ⟨by decide, rfl⟩
theorem pw_G8 (L : Nat) (xs : Nat → Int32) : am_G8 (pw_P L xs) pw_B := by
  refine ⟨fun o i t h => ?_, fun t h1 h2 => ?_⟩
  · have hm := am_fdm (show am_fd (pw_anw_l.getD o []) i = some t from h)
    have ho : o < 16 := pw_getD hm
    have hk := List.all_eq_true.mp (List.all_eq_true.mp pw_ok8_all o (List.mem_range.mpr ho)) _ hm
    simp only [Bool.and_eq_true, decide_eq_true_eq] at hk
    obtain ⟨h1, h2, h3, h4⟩ := hk
    obtain ⟨h5, h6⟩ := pw_elt_ok h1 h2
    exact ⟨h1, h2, _, pw_kl_eq h5, h6, pw_m_ar h3, pw_n_ao h4⟩
  · obtain ⟨h5, h6⟩ := pw_elt_ok h1 h2
    exact ⟨_, pw_kl_eq h5, h6⟩
def pw_ok9 (mi : Nat) : Bool := (am_g2 pw_code_l [] mi).all (fun q => match q.2 with
  | .checkcast i => decide (Cond.classLink (pw_cn (pw_own mi)) i "[I" ∈ pw_War)
  | _ => true)
set_option maxRecDepth 100000 in
theorem pw_ok9_all : (List.range 339).all pw_ok9 = true := by decide +kernel
theorem pw_G9 (L : Nat) (xs : Nat → Int32) : am_G9 (pw_P L xs) pw_B := by
  intro mi pc i h
  replace h : pw_code mi pc = some (.checkcast i) := h
  have hk := List.all_eq_true.mp (List.all_eq_true.mp pw_ok9_all mi (List.mem_range.mpr (pw_code_lt h))) _ (am_fdm h)
  exact pw_m_ar (of_decide_eq_true hk)
def pw_oka (mi : Nat) : Bool := (am_g2 pw_nat_l [] mi).all (fun q => decide (1 ≤ pw_rF mi) && (decide (40 ≤ pw_rL mi) && (match q.2 with
  | 0 => decide (Cond.methodLink (pw_cn (pw_own mi)) q.1 objectInit ∈ pw_Wna)
  | 1 => decide (Cond.methodLink (pw_cn (pw_own mi)) q.1 arraycopyName ∈ pw_Wna)
  | 2 => decide (Cond.methodLink (pw_cn (pw_own mi)) q.1 ⟨"[I", "clone", "()Ljava/lang/Object;"⟩ ∈ pw_Wna)
  | 3 => decide (Cond.methodLink (pw_cn (pw_own mi)) q.1 ⟨"java/lang/Double", "doubleToRawLongBits", "(D)J"⟩ ∈ pw_Wna)
  | 4 => decide (Cond.methodLink (pw_cn (pw_own mi)) q.1 ⟨"java/lang/Float", "floatToRawIntBits", "(F)I"⟩ ∈ pw_Wna)
  | _ => false)))
set_option maxRecDepth 100000 in
theorem pw_oka_all : (List.range 339).all pw_oka = true := by decide +kernel
set_option maxRecDepth 100000 in
theorem pw_wna : ∀ w ∈ ([.instanceMethod objectInit, .code objectInit ⟨#[0xb1]⟩ 1 none, .native arraycopyName, .static arraycopyName, .sameMethod "[I" "java/lang/Object" "clone" "()Ljava/lang/Object;", .native ⟨"java/lang/Object", "clone", "()Ljava/lang/Object;"⟩, .instanceMethod ⟨"java/lang/Object", "clone", "()Ljava/lang/Object;"⟩, .selects "[I" ⟨"[I", "clone", "()Ljava/lang/Object;"⟩ ⟨"java/lang/Object", "clone", "()Ljava/lang/Object;"⟩, .native ⟨"java/lang/Double", "doubleToRawLongBits", "(D)J"⟩, .static ⟨"java/lang/Double", "doubleToRawLongBits", "(D)J"⟩, .native ⟨"java/lang/Float", "floatToRawIntBits", "(F)I"⟩, .static ⟨"java/lang/Float", "floatToRawIntBits", "(F)I"⟩] : List Cond), w ∈ pw_Wna := by decide +kernel
set_option maxRecDepth 100000 in
theorem pw_win : ∀ w ∈ ([.initialized "java/lang/System", .initialized "java/lang/Double", .initialized "java/lang/Float"] : List Cond), w ∈ pw_Win := by decide +kernel
theorem pw_Ga (L : Nat) (xs : Nat → Int32) : am_Ga (pw_P L xs) pw_B := by
  intro mi i k h
  have hm := am_fdm (show am_fd (am_g2 pw_nat_l [] mi) i = some k from h)
  have hl : mi < 339 := by
    by_cases hm' : mi < 339
    · exact hm'
    · by_cases ht : 342 ≤ mi
      · rw [am_g2_out pw_nat_l [] (show 18 * pw_nat_l.length ≤ mi from ht)] at hm
        cases hm
      · have hc : mi = 339 ∨ mi = 340 ∨ mi = 341 := by omega
        rcases hc with rfl | rfl | rfl <;> cases hm
  have hk := List.all_eq_true.mp (List.all_eq_true.mp pw_oka_all mi (List.mem_range.mpr hl)) _ hm
  dsimp only at hk
  rw [Bool.and_eq_true, Bool.and_eq_true] at hk
  obtain ⟨h1, h2, h3⟩ := hk
  refine ⟨of_decide_eq_true h1, of_decide_eq_true h2, ?_⟩
  have wn : ∀ w, w ∈ _ → w ∈ pw_W := fun w hw => pw_m_na (pw_wna w hw)
  have wi : ∀ w, w ∈ _ → w ∈ pw_W := fun w hw => pw_m_in (pw_win w hw)
  match k, h3 with
  | 0, h3 => exact ⟨pw_m_na (of_decide_eq_true h3), wn _ (List.mem_of_getElem? (i := 0) rfl), wn _ (List.mem_of_getElem? (i := 1) rfl)⟩
  | 1, h3 => exact ⟨pw_m_na (of_decide_eq_true h3), wn _ (List.mem_of_getElem? (i := 2) rfl), wn _ (List.mem_of_getElem? (i := 3) rfl), wi _ (List.mem_of_getElem? (i := 0) rfl)⟩
  | 2, h3 => exact ⟨pw_m_na (of_decide_eq_true h3), wn _ (List.mem_of_getElem? (i := 4) rfl), wn _ (List.mem_of_getElem? (i := 5) rfl), wn _ (List.mem_of_getElem? (i := 6) rfl), wn _ (List.mem_of_getElem? (i := 7) rfl), pw_n_ca⟩
  | 3, h3 => exact ⟨pw_m_na (of_decide_eq_true h3), wn _ (List.mem_of_getElem? (i := 8) rfl), wn _ (List.mem_of_getElem? (i := 9) rfl), wi _ (List.mem_of_getElem? (i := 1) rfl)⟩
  | 4, h3 => exact ⟨pw_m_na (of_decide_eq_true h3), wn _ (List.mem_of_getElem? (i := 10) rfl), wn _ (List.mem_of_getElem? (i := 11) rfl), wi _ (List.mem_of_getElem? (i := 2) rfl)⟩
  | n + 5, h3 => cases h3
/-- a call's row -/
def pw_okb1 (mi : Nat) (q : Nat × Nat × Nat × Nat) : Bool := match q with
  | (i, kd, mj, n) => decide (pw_rF mj + 1 ≤ pw_rF mi) && (decide (8 + (pw_mxl mj + 11) + pw_rL mj ≤ pw_rL mi) && (decide (mj ∈ pw_ck) && (decide (pw_own mj < 16) && (decide ((pw_y mj).cls = pw_cn (pw_own mj)) && (plainFor (pw_y mj) && (decide ((pw_y mj).cls ≠ "java/lang/invoke/MethodHandle") && (decide ((pw_y mj).cls ≠ "java/lang/invoke/VarHandle") && (decide ((parseMethodDescriptor (pw_y mj).desc).map (fun d => d.parameters.length) = some (if kd = 0 then n else n - 1)) &&
    ((decide ((pw_own mi, i, mj) ∈ pw_me) || pw_mn.any (fun e => decide ((e.1, e.2.1, e.2.2.1) = (pw_own mi, i, mj)))) && (match kd with
    | 0 => decide (mj ∈ pw_sk)
    | 1 => decide (0 < n) && (decide (mj ∈ pw_ik) && (decide (mj ∈ pw_vk) && decide (pw_own mj < 10)))
    | 2 => decide (0 < n) && (decide ((pw_y mj).name = "<init>") && (decide (mj ∈ pw_ik) && decide (pw_ret mj = none)))
    | _ => false))))))))))
def pw_okb (mi : Nat) : Bool := (am_g2 pw_cal_l [] mi).all (pw_okb1 mi)
set_option maxRecDepth 100000 in
theorem pw_okb_0 : (List.range' 0 10).all pw_okb = true := by decide +kernel
set_option maxRecDepth 100000 in
theorem pw_okb_10 : (List.range' 10 10).all pw_okb = true := by decide +kernel
set_option maxRecDepth 100000 in
theorem pw_okb_20 : (List.range' 20 10).all pw_okb = true := by decide +kernel
set_option maxRecDepth 100000 in
theorem pw_okb_30 : (List.range' 30 10).all pw_okb = true := by decide +kernel
set_option maxRecDepth 100000 in
theorem pw_okb_40 : (List.range' 40 10).all pw_okb = true := by decide +kernel
set_option maxRecDepth 100000 in
theorem pw_okb_50 : (List.range' 50 10).all pw_okb = true := by decide +kernel
set_option maxRecDepth 100000 in
theorem pw_okb_60 : (List.range' 60 10).all pw_okb = true := by decide +kernel
set_option maxRecDepth 100000 in
theorem pw_okb_70 : (List.range' 70 10).all pw_okb = true := by decide +kernel
set_option maxRecDepth 100000 in
theorem pw_okb_80 : (List.range' 80 10).all pw_okb = true := by decide +kernel
set_option maxRecDepth 100000 in
theorem pw_okb_90 : (List.range' 90 10).all pw_okb = true := by decide +kernel
set_option maxRecDepth 100000 in
theorem pw_okb_100 : (List.range' 100 10).all pw_okb = true := by decide +kernel
set_option maxRecDepth 100000 in
theorem pw_okb_110 : (List.range' 110 10).all pw_okb = true := by decide +kernel
set_option maxRecDepth 100000 in
theorem pw_okb_120 : (List.range' 120 10).all pw_okb = true := by decide +kernel
set_option maxRecDepth 100000 in
theorem pw_okb_130 : (List.range' 130 10).all pw_okb = true := by decide +kernel
set_option maxRecDepth 100000 in
theorem pw_okb_140 : (List.range' 140 10).all pw_okb = true := by decide +kernel
set_option maxRecDepth 100000 in
theorem pw_okb_150 : (List.range' 150 10).all pw_okb = true := by decide +kernel
set_option maxRecDepth 100000 in
theorem pw_okb_160 : (List.range' 160 10).all pw_okb = true := by decide +kernel
set_option maxRecDepth 100000 in
theorem pw_okb_170 : (List.range' 170 10).all pw_okb = true := by decide +kernel
set_option maxRecDepth 100000 in
theorem pw_okb_180 : (List.range' 180 10).all pw_okb = true := by decide +kernel
set_option maxRecDepth 100000 in
theorem pw_okb_190 : (List.range' 190 10).all pw_okb = true := by decide +kernel
set_option maxRecDepth 100000 in
theorem pw_okb_200 : (List.range' 200 10).all pw_okb = true := by decide +kernel
set_option maxRecDepth 100000 in
theorem pw_okb_210 : (List.range' 210 10).all pw_okb = true := by decide +kernel
set_option maxRecDepth 100000 in
theorem pw_okb_220 : (List.range' 220 10).all pw_okb = true := by decide +kernel
set_option maxRecDepth 100000 in
theorem pw_okb_230 : (List.range' 230 10).all pw_okb = true := by decide +kernel
set_option maxRecDepth 100000 in
theorem pw_okb_240 : (List.range' 240 10).all pw_okb = true := by decide +kernel
set_option maxRecDepth 100000 in
theorem pw_okb_250 : (List.range' 250 10).all pw_okb = true := by decide +kernel
set_option maxRecDepth 100000 in
theorem pw_okb_260 : (List.range' 260 10).all pw_okb = true := by decide +kernel
set_option maxRecDepth 100000 in
theorem pw_okb_270 : (List.range' 270 10).all pw_okb = true := by decide +kernel
set_option maxRecDepth 100000 in
theorem pw_okb_280 : (List.range' 280 10).all pw_okb = true := by decide +kernel
set_option maxRecDepth 100000 in
theorem pw_okb_290 : (List.range' 290 10).all pw_okb = true := by decide +kernel
set_option maxRecDepth 100000 in
theorem pw_okb_300 : (List.range' 300 10).all pw_okb = true := by decide +kernel
set_option maxRecDepth 100000 in
theorem pw_okb_310 : (List.range' 310 10).all pw_okb = true := by decide +kernel
set_option maxRecDepth 100000 in
theorem pw_okb_320 : (List.range' 320 10).all pw_okb = true := by decide +kernel
set_option maxRecDepth 100000 in
theorem pw_okb_330 : (List.range' 330 9).all pw_okb = true := by decide +kernel
theorem pw_okb_all {mi : Nat} (h : mi < 339) : pw_okb mi = true := by
  by_cases h0 : mi < 10
  · exact pw_rng pw_okb_0 (by omega) h0
  by_cases h10 : mi < 20
  · exact pw_rng pw_okb_10 (by omega) h10
  by_cases h20 : mi < 30
  · exact pw_rng pw_okb_20 (by omega) h20
  by_cases h30 : mi < 40
  · exact pw_rng pw_okb_30 (by omega) h30
  by_cases h40 : mi < 50
  · exact pw_rng pw_okb_40 (by omega) h40
  by_cases h50 : mi < 60
  · exact pw_rng pw_okb_50 (by omega) h50
  by_cases h60 : mi < 70
  · exact pw_rng pw_okb_60 (by omega) h60
  by_cases h70 : mi < 80
  · exact pw_rng pw_okb_70 (by omega) h70
  by_cases h80 : mi < 90
  · exact pw_rng pw_okb_80 (by omega) h80
  by_cases h90 : mi < 100
  · exact pw_rng pw_okb_90 (by omega) h90
  by_cases h100 : mi < 110
  · exact pw_rng pw_okb_100 (by omega) h100
  by_cases h110 : mi < 120
  · exact pw_rng pw_okb_110 (by omega) h110
  by_cases h120 : mi < 130
  · exact pw_rng pw_okb_120 (by omega) h120
  by_cases h130 : mi < 140
  · exact pw_rng pw_okb_130 (by omega) h130
  by_cases h140 : mi < 150
  · exact pw_rng pw_okb_140 (by omega) h140
  by_cases h150 : mi < 160
  · exact pw_rng pw_okb_150 (by omega) h150
  by_cases h160 : mi < 170
  · exact pw_rng pw_okb_160 (by omega) h160
  by_cases h170 : mi < 180
  · exact pw_rng pw_okb_170 (by omega) h170
  by_cases h180 : mi < 190
  · exact pw_rng pw_okb_180 (by omega) h180
  by_cases h190 : mi < 200
  · exact pw_rng pw_okb_190 (by omega) h190
  by_cases h200 : mi < 210
  · exact pw_rng pw_okb_200 (by omega) h200
  by_cases h210 : mi < 220
  · exact pw_rng pw_okb_210 (by omega) h210
  by_cases h220 : mi < 230
  · exact pw_rng pw_okb_220 (by omega) h220
  by_cases h230 : mi < 240
  · exact pw_rng pw_okb_230 (by omega) h230
  by_cases h240 : mi < 250
  · exact pw_rng pw_okb_240 (by omega) h240
  by_cases h250 : mi < 260
  · exact pw_rng pw_okb_250 (by omega) h250
  by_cases h260 : mi < 270
  · exact pw_rng pw_okb_260 (by omega) h260
  by_cases h270 : mi < 280
  · exact pw_rng pw_okb_270 (by omega) h270
  by_cases h280 : mi < 290
  · exact pw_rng pw_okb_280 (by omega) h280
  by_cases h290 : mi < 300
  · exact pw_rng pw_okb_290 (by omega) h290
  by_cases h300 : mi < 310
  · exact pw_rng pw_okb_300 (by omega) h300
  by_cases h310 : mi < 320
  · exact pw_rng pw_okb_310 (by omega) h310
  by_cases h320 : mi < 330
  · exact pw_rng pw_okb_320 (by omega) h320
  by_cases h330 : mi < 339
  · exact pw_rng pw_okb_330 (by omega) h330
  omega
theorem pw_Gb (L : Nat) (xs : Nat → Int32) : am_Gb (pw_P L xs) pw_B := by
  intro mi i kd mj n h
  have hm := am_fdm (show am_fd (am_g2 pw_cal_l [] mi) i = some (kd, mj, n) from h)
  have hl : mi < 339 := by
    by_cases hm' : mi < 339
    · exact hm'
    · by_cases ht : 342 ≤ mi
      · rw [am_g2_out pw_cal_l [] (show 18 * pw_cal_l.length ≤ mi from ht)] at hm
        cases hm
      · have hc : mi = 339 ∨ mi = 340 ∨ mi = 341 := by omega
        rcases hc with rfl | rfl | rfl <;> cases hm
  have hk := List.all_eq_true.mp (show (am_g2 pw_cal_l [] mi).all (pw_okb1 mi) = true from pw_okb_all hl) _ hm
  unfold pw_okb1 at hk
  dsimp only at hk
  simp only [Bool.and_eq_true] at hk
  obtain ⟨h1, h2, h3, h4, h5, h6, h7, h8, h9, ha, hb⟩ := hk
  have h1 := of_decide_eq_true h1
  have h2 := of_decide_eq_true h2
  have h3 := of_decide_eq_true h3
  have h4 := of_decide_eq_true h4
  have h5 := of_decide_eq_true h5
  refine ⟨h1, h2, pw_m_cd (List.mem_map.mpr ⟨mj, h3, rfl⟩), ?_, h5, h6, ⟨of_decide_eq_true h7, of_decide_eq_true h8, of_decide_eq_true h9⟩, ?_, ?_, ?_, ?_⟩
  · show Cond.initialized (pw_y mj).cls ∈ pw_W
    rw [h5]
    have hin : ∀ o, o < 16 → Cond.initialized (pw_cn o) ∈ pw_Win := by
      intro o ho
      have hc : o = 0 ∨ o = 1 ∨ o = 2 ∨ o = 3 ∨ o = 4 ∨ o = 5 ∨ o = 6 ∨ o = 7 ∨ o = 8 ∨ o = 9 ∨ o = 10 ∨ o = 11 ∨ o = 12 ∨ o = 13 ∨ o = 14 ∨ o = 15 := by omega
      rcases hc with rfl | rfl | rfl | rfl | rfl | rfl | rfl | rfl | rfl | rfl | rfl | rfl | rfl | rfl | rfl | rfl
      · exact List.mem_of_getElem? (i := 0) rfl
      · exact List.mem_of_getElem? (i := 1) rfl
      · exact List.mem_of_getElem? (i := 2) rfl
      · exact List.mem_of_getElem? (i := 3) rfl
      · exact List.mem_of_getElem? (i := 4) rfl
      · exact List.mem_of_getElem? (i := 5) rfl
      · exact List.mem_of_getElem? (i := 6) rfl
      · exact List.mem_of_getElem? (i := 7) rfl
      · exact List.mem_of_getElem? (i := 8) rfl
      · exact List.mem_of_getElem? (i := 9) rfl
      · exact List.mem_of_getElem? (i := 10) rfl
      · exact List.mem_of_getElem? (i := 11) rfl
      · exact List.mem_of_getElem? (i := 12) rfl
      · exact List.mem_of_getElem? (i := 13) rfl
      · exact List.mem_of_getElem? (i := 14) rfl
      · exact List.mem_of_getElem? (i := 15) rfl
    exact pw_m_in (hin _ h4)
  · rw [Bool.or_eq_true] at ha
    rcases ha with ha | ha
    · exact Or.inl (pw_m_ml (List.mem_map.mpr ⟨_, of_decide_eq_true ha, rfl⟩))
    · obtain ⟨e, he, hq⟩ := List.any_eq_true.mp ha
      have hq := of_decide_eq_true hq
      obtain ⟨e1, e2, e3, e4⟩ := e
      simp only [Prod.mk.injEq] at hq
      obtain ⟨rfl, rfl, rfl⟩ := hq
      exact Or.inr ⟨e4, pw_n_ml (List.mem_map.mpr ⟨_, he, rfl⟩)⟩
  · rintro rfl
    exact pw_m_sk (List.mem_map.mpr ⟨mj, of_decide_eq_true hb, rfl⟩)
  · rintro rfl
    simp only [Bool.and_eq_true, decide_eq_true_eq] at hb
    obtain ⟨b1, b2, b3, b4⟩ := hb
    exact ⟨b1, pw_m_ik (List.mem_map.mpr ⟨mj, b2, rfl⟩), pw_m_vk (List.mem_map.mpr ⟨mj, b3, rfl⟩), _, pw_kl_eq b4⟩
  · rintro rfl
    simp only [Bool.and_eq_true, decide_eq_true_eq] at hb
    obtain ⟨b1, b2, b3, b4⟩ := hb
    exact ⟨b1, b2, pw_m_ik (List.mem_map.mpr ⟨mj, b3, rfl⟩), b4⟩
def pw_okc (mi : Nat) : Bool := !pw_ini mi || decide ((pw_y mi).name = "<init>")
set_option maxRecDepth 100000 in
theorem pw_okc_all : (List.range 342).all pw_okc = true := by decide +kernel
theorem pw_Gc (L : Nat) (xs : Nat → Int32) : am_Gc (pw_P L xs) pw_B := by
  refine ⟨pw_W_good, pw_N_nw, fun mj h => ?_⟩
  replace h : pw_ini mj = true := h
  by_cases ht : mj < 342
  · have hk := List.all_eq_true.mp pw_okc_all mj (List.mem_range.mpr ht)
    unfold pw_okc at hk
    rw [h] at hk
    simp only [Bool.not_true, Bool.false_or, decide_eq_true_eq] at hk
    exact hk
  · unfold pw_ini at h
    rw [am_g2_out pw_ini_l false (show 18 * pw_ini_l.length ≤ mj from Nat.not_lt.mp ht)] at h
    cases h
/-- THE PROGRAM IS THE CLAIM'S -/
theorem pw_G (L : Nat) (xs : Nat → Int32) : am_Gd (pw_P L xs) pw_B := ⟨pw_G1 L xs, pw_G2 L xs, pw_G3 L xs, pw_G4 L xs, pw_G5 L xs, pw_G6 L xs, pw_G7, pw_G8 L xs, pw_G9 L xs, pw_Ga L xs, pw_Gb L xs, pw_Gc L xs⟩

end

/-! 36.start.lean.txt -/
section
/-! ===== THE CLAIM OUT OF THE PURE MACHINE'S RUN OF THE LAW ===== -/
theorem am_eqi {args : Array Value} {s : State} {T : Term} {z : Int32} (h : (Cond.eq T (.int z)).before args s = true) : T.eval args s none [] s = some (.int z) := by
  cases hv : T.eval args s none [] s with
  | none => simp [Cond.before, Cond.holds, Cond.value, hv] at h
  | some w =>
    have hz : (Term.int z).eval args s none [] s = some (.int z) := rfl
    simp only [Cond.before, Cond.holds, Cond.value, hv, hz] at h
    cases w <;> simp_all
/-- a table that nobody writes, at the start -/
theorem am_stat {args : Array Value} {s : State} {C n d : String} {N : Nat} {f : Nat → Int32} (hN : N < 2 ^ 31) (harr : (Cond.arrayOf (.static C n d) .int).before args s = true) (hlen : (Cond.eq (.length (.static C n d)) (.int (Int32.ofNat N))).before args s = true)
    (hel : ∀ j : Nat, j < N → (Cond.eq (.elem (.static C n d) (.int (Int32.ofNat j))) (.int (f j))).before args s = true) (hex : (Cond.exactly (.static C n d) "[I").before args s = true)
    (hl : (Cond.laysStatic C n d).before args s = true) (hini : (Cond.initialized C).before args s = true) :
    ∃ t : Nat, t < s.heap.size ∧ va_X t N f s s.heap ∧ (∃ cell : Cell, s.heap[t]? = some cell ∧ s.vm.findClass "[I" = some cell.cls) ∧ va_Z C n d (.ref t) (fun q => s.heap.size ≤ q) s s.heap := by
  have hv := am_eqi hlen
  obtain ⟨t, cell, ht, hat, hvv⟩ := Term.length_spec hv
  have hsz : cell.slots.size < 2 ^ 31 := by
    simp only [Term.eval, Option.bind_eq_bind] at hv
    have ht' := ht
    simp only [Term.eval, Option.bind_eq_bind] at ht'
    rw [ht'] at hv
    simp only [Option.bind_some, hat] at hv
    by_cases hlt : cell.slots.size < 2147483648
    · exact hlt
    · simp [hlt] at hv
  obtain ⟨hcell, hkn, -, -⟩ := State.arrayAt?_spec hat
  obtain ⟨hof, -⟩ := Cond.arrayOf_spec harr ht hcell
  have hN2 : cell.slots.size = N := by
    have e : Int32.ofNat cell.slots.size = Int32.ofNat N := (Value.int.inj hvv).symm
    have e1 := Int32.toInt_ofNat_small hsz
    have e2 := Int32.toInt_ofNat_small hN
    rw [e, e2] at e1
    omega
  refine ⟨t, (Array.getElem?_eq_some_iff.mp hcell).1, ⟨cell, hcell, hof, hkn, hN2, fun j hj => ?_⟩, ?_, va_Zof hl hini ht (fun a ha => Nat.not_le.mpr ha)⟩
  · obtain ⟨a, i, cell2, h1, h2, h3, h4, h5⟩ := Term.elem_spec (am_eqi (hel j hj))
    cases ht.symm.trans h1
    cases hat.symm.trans h3
    have hi : i = Int32.ofNat j := by
      have e : (Term.int (Int32.ofNat j)).eval args s none [] s = some (.int (Int32.ofNat j)) := rfl
      cases h2.symm.trans e
      rfl
    have hc : i.toNatClampNeg = j := by rw [hi]; exact Int32.toNatClampNeg_ofNat_of_lt (Nat.lt_trans hj hN)
    rw [hc] at h5
    exact h5
  · obtain ⟨a, c, cell2, k, h1, h2, h3, -, -, h6, -⟩ := Cond.exactly_spec hex
    cases ht.symm.trans h1
    cases hcell.symm.trans h3
    exact ⟨cell, hcell, by rw [h6]; exact h2⟩
def pw_okt (k : Nat) : Bool := match pw_S.getD k ("", "", "") with
  | (C, n, d) => decide (Cond.arrayOf (.static C n d) .int ∈ flatC (Jvm.Cond.and given_1 narrow_1)) && (decide (Cond.eq (.length (.static C n d)) (.int (Int32.ofNat (pw_tab_l.getD k []).length)) ∈ flatC (Jvm.Cond.and given_1 narrow_1)) && (decide (Cond.exactly (.static C n d) "[I" ∈ flatC (Jvm.Cond.and given_1 narrow_1)) && (decide (Cond.laysStatic C n d ∈ lw_tbl) && (decide (Cond.initialized C ∈ lw_tbl) &&
    (List.range (pw_tab_l.getD k []).length).all (fun j => decide (Cond.eq (.elem (.static C n d) (.int (Int32.ofNat j))) (.int (pw_tbl k j)) ∈ flatC (Jvm.Cond.and given_1 narrow_1)))))))
set_option maxRecDepth 100000 in
theorem pw_okt_all : (List.range pw_S.length).all pw_okt = true := by decide +kernel
set_option maxRecDepth 100000 in
theorem pw_okt_len : (List.range pw_S.length).all (fun k => decide ((pw_tab_l.getD k []).length < 2 ^ 31)) = true := by decide +kernel
theorem pw_stat {args : Array Value} {s : State} (hts : ∀ w ∈ lw_tbl, w.before args s = true) (hgv : (Jvm.Cond.and given_1 narrow_1).before args s = true) {k : Nat} (hk : k < pw_S.length) :
    ∃ t : Nat, t < s.heap.size ∧ va_X t (pw_tab_l.getD k []).length (pw_tbl k) s s.heap ∧ (∃ cell : Cell, s.heap[t]? = some cell ∧ s.vm.findClass "[I" = some cell.cls) ∧ va_Z (pw_S.getD k ("", "", "")).1 (pw_S.getD k ("", "", "")).2.1 (pw_S.getD k ("", "", "")).2.2 (.ref t) (fun q => s.heap.size ≤ q) s s.heap := by
  have h := List.all_eq_true.mp pw_okt_all k (List.mem_range.mpr hk)
  have hl := of_decide_eq_true (List.all_eq_true.mp pw_okt_len k (List.mem_range.mpr hk))
  unfold pw_okt at h
  generalize hq : pw_S.getD k ("", "", "") = q at h ⊢
  obtain ⟨C, n, d⟩ := q
  simp only [Bool.and_eq_true, decide_eq_true_eq] at h
  obtain ⟨h1, h2, h3, h4, h5, h6⟩ := h
  have fl := flat_of_before _ hgv
  exact am_stat hl (fl _ h1) (fl _ h2) (fun j hj => fl _ (of_decide_eq_true (List.all_eq_true.mp h6 j (List.mem_range.mpr hj)))) (fl _ h3) (hts _ h4) (hts _ h5)
def pw_cs (b : Nat) (t : Nat → Nat) (c : Nat) : Nat := match c with
  | 0 => b
  | k + 1 => t k
/-- the arrays' classes -/
theorem pw_arr {args : Array Value} {s : State} (hts : ∀ w ∈ pw_W, w.before args s = true) (htN : ∀ w ∈ pw_N, va_Nw w s) : ∃ AT : Nat → ClassId, ∀ (t : Nat) (ty : FieldType), pw_ty[t]? = some ty → ArrOfT s (AT t) ty ∧ va_RA s (AT t) ty := by
  have key : ∀ t : Nat, ∃ c : ClassId, ∀ ty : FieldType, pw_ty[t]? = some ty → ArrOfT s c ty ∧ va_RA s c ty := by
    intro t
    by_cases ht : t < pw_ty.length
    · by_cases h2 : 2 ≤ t
      · obtain ⟨h5, h6⟩ := pw_elt_ok h2 ht
        obtain ⟨-, g⟩ := pw_G8 0 (fun _ => 0)
        have hw : Cond.arrayOver (.object (pw_cn (pw_elt t))) ∈ pw_N := by
          have hc : t = 2 ∨ t = 3 ∨ t = 4 := by
            have : t < 5 := ht
            omega
          rcases hc with rfl | rfl | rfl <;> exact pw_n_ao (by decide +kernel)
        obtain ⟨comp, c, k, q1, q2, q3, q4, q5⟩ := Cond.arrayOver_spec (va_AO.use (A := args) (htN _ hw))
        refine ⟨c, fun ty hty => ?_⟩
        cases h6.symm.trans hty
        exact ⟨fun N z => ⟨(fun k h => by cases h), k, q3, comp, q4⟩, k, comp, q3, q4, q1, q5⟩
      · rcases (show t = 0 ∨ t = 1 by omega) with rfl | rfl
        · obtain ⟨c, k, comp, q1, q2, q3⟩ := Cond.arrayClass_spec (hts _ pw_G7.1)
          refine ⟨c, fun ty hty => ?_⟩
          cases (show pw_ty[0]? = some .int from rfl).symm.trans hty
          exact ⟨fun N z => ⟨(fun k h => by cases h), k, q2, comp, q3⟩, q1⟩
        · obtain ⟨c, k, comp, q1, q2, q3⟩ := Cond.arrayClass_spec (hts _ pw_G7.2.1)
          refine ⟨c, fun ty hty => ?_⟩
          cases (show pw_ty[1]? = some .long from rfl).symm.trans hty
          exact ⟨fun N z => ⟨(fun k h => by cases h), k, q2, comp, q3⟩, q1⟩
    · refine ⟨0, fun ty hty => ?_⟩
      rw [List.getElem?_eq_none (by omega)] at hty
      cases hty
  exact ⟨fun t => Classical.choose (key t), fun t => Classical.choose_spec (key t)⟩
theorem pw_known {args : Array Value} {s : State} (hts : ∀ w ∈ pw_W, w.before args s = true) : ∃ D : va_G, ∀ (c : Nat) (q : vw_C), pw_kl[c]? = some q → u_Kn s q.1 q.2.1 q.2.2 (D.1 c) (D.2 c) := by
  have key : ∀ c : Nat, ∃ d : ClassId × (Nat → Nat), ∀ q : vw_C, pw_kl[c]? = some q → u_Kn s q.1 q.2.1 q.2.2 d.1 d.2 := by
    intro c
    cases hq : pw_kl[c]? with
    | none => exact ⟨(0, fun _ => 0), fun q h => by cases h⟩
    | some r =>
      have hl := pw_kl_lt hq
      have hr : r = (pw_cn c, pw_T c, (pw_fld_d.getD c []).length) := Option.some.inj (hq.symm.trans (pw_kl_eq hl))
      obtain ⟨-, g2, -⟩ := pw_G2 0 (fun _ => 0) c r hq
      have hi : Cond.instantiable r.1 r.2.2 ∈ pw_W := by
        subst hr
        refine pw_m_ni ?_
        have h0 : pw_Wni[c]? = some (Cond.instantiable (pw_cn c) (pw_fld_d.getD c []).length) := by
          have hc : c = 0 ∨ c = 1 ∨ c = 2 ∨ c = 3 ∨ c = 4 ∨ c = 5 ∨ c = 6 ∨ c = 7 ∨ c = 8 ∨ c = 9 := by omega
          rcases hc with rfl | rfl | rfl | rfl | rfl | rfl | rfl | rfl | rfl | rfl <;> rfl
        exact List.mem_of_getElem? h0
      obtain ⟨c0, iS, h⟩ := u_known (C := r.1) (T := r.2.1) (N := r.2.2) hts g2 (hts _ hi)
      exact ⟨(c0, iS), fun q h' => by cases h'; exact h⟩
  exact ⟨(fun c => (Classical.choose (key c)).1, fun c => (Classical.choose (key c)).2), fun c q h => Classical.choose_spec (key c) q h⟩
/-- the law's run on the pure machine -/
def pw_Run (L : Nat) (xs : Nat → Int32) : Prop := ∃ (f : Nat) (M : am_M), am_ev (pw_P L xs) f 0 0 (lv_args 0 [.retAddr 0]) [] ([], 0) = some (some (.int 1), M) ∧ M.1.length ≤ 600000 ∧ M.2 ≤ 7302250
theorem pw_start {p : Program} {e : Env} {s : State} {m : MethodId} {below : List Frame} {meth : Method} {c : Code} (l : Launch) {b L : Nat} {xs : Nat → Int32} (hrun : pw_Run L xs) (C0 : lw_At p s m meth c b L xs) : W p l e room_1 s m #[Value.ref b] below meth c s.heap [] 0 0 (lw_Z below #[Value.ref b] s) (entryFrame m ([Value.ref b] : List Value).toArray 4) := by
  obtain ⟨hx, hb, hr, hml, hown, hts, hX, hbl, hlocks, hgv⟩ := id C0
  obtain ⟨f, M, hev, hm1, hm2⟩ := hrun
  have htW : ∀ w ∈ pw_W, w.before #[Value.ref b] s = true := fun w hw => hts w (pw_W_in w hw)
  have htN : ∀ w ∈ pw_N, va_Nw w s := fun w hw => by
    have h1 := pw_N_nw w hw
    have h2 := hts w (pw_N_in w hw)
    cases w <;> first | (cases h1; done) | exact va_Nw.of rfl h2 | (rename_i ty; cases ty <;> first | (cases h1; done) | exact va_AO.of h2)
  obtain ⟨D, hKn⟩ := pw_known htW
  obtain ⟨AT, hAT⟩ := pw_arr htW htN
  have hst : ∀ k : Nat, ∃ t : Nat, k < pw_S.length → t < s.heap.size ∧ va_X t (pw_tab_l.getD k []).length (pw_tbl k) s s.heap ∧ (∃ cell : Cell, s.heap[t]? = some cell ∧ s.vm.findClass "[I" = some cell.cls) ∧ va_Z (pw_S.getD k ("", "", "")).1 (pw_S.getD k ("", "", "")).2.1 (pw_S.getD k ("", "", "")).2.2 (.ref t) (fun q => s.heap.size ≤ q) s s.heap := by
    intro k
    by_cases hk : k < pw_S.length
    · obtain ⟨t, h⟩ := pw_stat hts hgv hk
      exact ⟨t, fun _ => h⟩
    · exact ⟨0, fun h => absurd h hk⟩
  obtain ⟨t, ht⟩ : ∃ t : Nat → Nat, ∀ k : Nat, k < pw_S.length → t k < s.heap.size ∧ va_X (t k) (pw_tab_l.getD k []).length (pw_tbl k) s s.heap ∧ (∃ cell : Cell, s.heap[t k]? = some cell ∧ s.vm.findClass "[I" = some cell.cls) ∧ va_Z (pw_S.getD k ("", "", "")).1 (pw_S.getD k ("", "", "")).2.1 (pw_S.getD k ("", "", "")).2.2 (.ref (t k)) (fun q => s.heap.size ≤ q) s s.heap := ⟨fun k => Classical.choose (hst k), fun k => Classical.choose_spec (hst k)⟩
  have hK : va_K D (am_kl pw_B) (am_tys pw_B (AT, pw_cs b t, s.heap.size)) s := by
    refine ⟨hKn, fun k q hq => ?_⟩
    simp only [am_tys, List.getElem?_mapIdx, Option.map_eq_some_iff] at hq
    obtain ⟨ty, h1, rfl⟩ := hq
    exact hAT k ty h1
  have hKc : am_Kc (pw_P L xs) pw_B (AT, pw_cs b t, s.heap.size) s s.heap := by
    refine ⟨fun c n f hc => ?_, fun k q hq => ?_⟩
    · replace hc : pw_cst L xs c = some (n, f) := hc
      cases c with
      | zero =>
        cases hc
        exact ⟨hbl, hbl, hX, fun h => absurd rfl h⟩
      | succ k =>
        unfold pw_cst at hc
        dsimp only at hc
        by_cases hk : k < pw_tab_l.length
        · rw [if_pos hk] at hc
          cases hc
          obtain ⟨a1, a2, a3, -⟩ := ht k hk
          exact ⟨a1, a1, a2, fun _ => a3⟩
        · rw [if_neg hk] at hc
          cases hc
    · replace hq : pw_S[k]? = some q := hq
      have hk : k < pw_S.length := (List.getElem?_eq_some_iff.mp hq).1
      obtain ⟨-, -, -, a4⟩ := ht k hk
      have e : pw_S.getD k ("", "", "") = q := by rw [List.getD_eq_getElem?_getD, hq]; rfl
      rw [e] at a4
      exact a4
  have hX0 : am_X (pw_P L xs) pw_B D (AT, pw_cs b t, s.heap.size) p room_1 s m #[Value.ref b] meth c 0 :=
    ⟨hx, hb, hml, hr, hlocks, hown, (fun h => absurd (show pw_ini 0 = true from h) (by decide)), htW, htN, hK, hKc, Nat.le_refl _, (show pw_rF 0 ≤ 15 by decide), (show pw_rL 0 ≤ 578 by decide)⟩
  have hl := lv_entry ([.ref b]) (n := 4) (Nat.le_of_ble_eq_true rfl)
  rw [lg_entry_eq]
  generalize (lg_sl ([.ref b]) ++ List.replicate (4 - (lg_sl ([.ref b])).length) Slot.unset).toArray = ls at hl ⊢
  have K := am_ev_sound (pw_G L xs) l D (AT, pw_cs b t, s.heap.size) f 0 0 (lv_args 0 [.retAddr 0]) [] ([], 0) (some (.int 1)) M hev (p := p) (e := e) (below := below) (Q := lw_Z below #[Value.ref b] s) (k0 := 0) (n0 := 0) hX0 hm1 hm2
    (fun H locs ls pc ins st hcd hrt hR hS => ?_) s.heap [] ls ⟨fun k q h => (by simp [am_ws] at h), rfl⟩ va_S.rf hl (Nat.le_refl _) (Nat.le_refl _)
  · exact K
  · have hins : ins = .ireturn ∧ st = [.int 1] := by
      unfold am_rt at hrt
      split at hrt <;> (repeat' (split at hrt)) <;> first | (cases hrt; done) | (cases hrt; exact ⟨rfl, rfl⟩)
    obtain ⟨rfl, rfl⟩ := hins
    obtain ⟨len, hdg, hlen⟩ := pw_G1 L xs 0 pc _ hcd
    refine va_forget (fun q hq => hS.2.2 q hq) ?_
    refine W.widen (k := 600000) (n := 7302250) hm1 hm2 ?_
    exact lw_ret (d0 := s.drawn) (Drawn.sameBut.refl s.drawn lw_cs) hx hb hr hlocks (am_lq hlen hdg rfl)

end

/-! 40.triples.lean.txt -/
section
/-! ===== what a run of the pure machine comes to ===== -/
section AMT
variable {P : am_Pg} {mi : Nat} {pc pc' : Nat} {lv lv' : am_L} {st st' : List Value} {M M' : am_M}
/-- one turn of the machine, over any machine below it -/
def am_e1 (P : am_Pg) (ev : Nat → Nat → am_L → List Value → am_M → Option (Option Value × am_M)) (mi pc : Nat) (lv : am_L) (st : List Value) (M : am_M) : Option (Option Value × am_M) := match am_code P mi pc with
  | none => none
  | some ins => match am_cl P mi ins with
    | some (mj, n) => bif am_rc P mi ins mj n st M then (match ev mj 0 (lv_args 0 (st.take n).reverse) [] M with
        | some (v, M') => ev mi (pc + 3) lv (v.toList ++ st.drop n) M'
        | none => none) else none
    | none => match am_rt P mi ins st with
      | some v => some (v, M)
      | none => match am_st P mi ins pc lv st M with
        | some (pc', lv', st', M') => ev mi pc' lv' st' M'
        | none => none
theorem am_ev_s (f : Nat) : am_ev P (f + 1) = am_e1 P (am_ev P f) := by
  funext mi pc lv st M
  rfl
theorem am_e1m {ev ev' : Nat → Nat → am_L → List Value → am_M → Option (Option Value × am_M)} (he : ∀ mi pc lv st M r, ev mi pc lv st M = some r → ev' mi pc lv st M = some r) {r : Option Value × am_M} (h : am_e1 P ev mi pc lv st M = some r) : am_e1 P ev' mi pc lv st M = some r := by
  unfold am_e1 at h ⊢
  cases hc : am_code P mi pc with
  | none => rw [hc] at h; cases h
  | some ins =>
    rw [hc] at h
    dsimp only at h ⊢
    cases hcl : am_cl P mi ins with
    | some q =>
      obtain ⟨mj, n⟩ := q
      rw [hcl] at h
      dsimp only at h ⊢
      obtain ⟨h1, h⟩ := am_bif h
      rw [h1]
      dsimp only [cond_true]
      cases h2 : ev mj 0 (lv_args 0 (st.take n).reverse) [] M with
      | none => rw [h2] at h; cases h
      | some q =>
        obtain ⟨v, M1⟩ := q
        rw [h2] at h
        rw [he _ _ _ _ _ _ h2]
        exact he _ _ _ _ _ _ h
    | none =>
      rw [hcl] at h
      dsimp only at h ⊢
      cases hrt : am_rt P mi ins st with
      | some v =>
        rw [hrt] at h
        exact h
      | none =>
        rw [hrt] at h
        dsimp only at h ⊢
        cases hst : am_st P mi ins pc lv st M with
        | none => rw [hst] at h; cases h
        | some q =>
          obtain ⟨p1, l1, s1, m1⟩ := q
          rw [hst] at h
          exact he _ _ _ _ _ _ h
/-- more fuel, the same answer -/
theorem am_fuel1 : ∀ (f mi pc : Nat) (lv : am_L) (st : List Value) (M : am_M) (r : Option Value × am_M), am_ev P f mi pc lv st M = some r → am_ev P (f + 1) mi pc lv st M = some r := by
  intro f
  induction f with
  | zero => intro mi pc lv st M r h; cases h
  | succ f ih =>
    intro mi pc lv st M r h
    rw [am_ev_s] at h ⊢
    exact am_e1m ih h
theorem am_fuel (f mi pc : Nat) (lv : am_L) (st : List Value) (M : am_M) (r : Option Value × am_M) (h : am_ev P f mi pc lv st M = some r) (g : Nat) (hg : f ≤ g) : am_ev P g mi pc lv st M = some r := by
  obtain ⟨d, rfl⟩ := Nat.exists_eq_add_of_le hg
  clear hg
  induction d with
  | zero => exact h
  | succ d ih => exact am_fuel1 _ _ _ _ _ _ _ ih
/-- from here it comes to an end, with an answer and a memory of which Q holds -/
def am_To (P : am_Pg) (mi pc : Nat) (lv : am_L) (st : List Value) (M : am_M) (Q : Option Value → am_M → Prop) : Prop := ∃ (f : Nat) (v : Option Value) (M' : am_M), am_ev P f mi pc lv st M = some (v, M') ∧ Q v M'
theorem am_To.mono {Q Q' : Option Value → am_M → Prop} (h : am_To P mi pc lv st M Q) (hq : ∀ v M', Q v M' → Q' v M') : am_To P mi pc lv st M Q' := by
  obtain ⟨f, v, M', h1, h2⟩ := h
  exact ⟨f, v, M', h1, hq v M' h2⟩
theorem am_To.stp {ins : Instr} {Q : Option Value → am_M → Prop} (hc : am_code P mi pc = some ins) (hcl : am_cl P mi ins = none) (hrt : am_rt P mi ins st = none) (hst : am_st P mi ins pc lv st M = some (pc', lv', st', M')) (k : am_To P mi pc' lv' st' M' Q) : am_To P mi pc lv st M Q := by
  obtain ⟨f, v, M1, h1, h2⟩ := k
  refine ⟨f + 1, v, M1, ?_, h2⟩
  rw [am_ev_s]
  generalize am_ev P f = ev at h1
  unfold am_e1
  rw [hc]
  dsimp only
  rw [hcl]
  dsimp only
  rw [hrt]
  dsimp only
  rw [hst]
  exact h1
theorem am_To.ret {ins : Instr} {v : Option Value} {Q : Option Value → am_M → Prop} (hc : am_code P mi pc = some ins) (hcl : am_cl P mi ins = none) (hrt : am_rt P mi ins st = some v) (k : Q v M) : am_To P mi pc lv st M Q := by
  refine ⟨1, v, M, ?_, k⟩
  rw [am_ev_s]
  generalize am_ev P 0 = ev
  unfold am_e1
  rw [hc]
  dsimp only
  rw [hcl]
  dsimp only
  rw [hrt]
theorem am_To.cal {ins : Instr} {mj n : Nat} {Q : Option Value → am_M → Prop} (hc : am_code P mi pc = some ins) (hcl : am_cl P mi ins = some (mj, n)) (hrc : am_rc P mi ins mj n st M = true) (k : am_To P mj 0 (lv_args 0 (st.take n).reverse) [] M (fun v M' => am_To P mi (pc + 3) lv (v.toList ++ st.drop n) M' Q)) : am_To P mi pc lv st M Q := by
  obtain ⟨f, v, M1, h1, g, v2, M2, h2, h3⟩ := k
  refine ⟨max f g + 1, v2, M2, ?_, h3⟩
  have e1 := am_fuel _ _ _ _ _ _ _ h1 (max f g) (Nat.le_max_left _ _)
  have e2 := am_fuel _ _ _ _ _ _ _ h2 (max f g) (Nat.le_max_right _ _)
  rw [am_ev_s]
  generalize am_ev P (max f g) = ev at e1 e2
  unfold am_e1
  rw [hc]
  dsimp only
  rw [hcl]
  dsimp only
  rw [hrc, e1]
  exact e2
/-- a stretch of n instructions without calls and answers -/
def am_go_ (P : am_Pg) (mi : Nat) : Nat → am_C → Option am_C
  | 0, c => some c
  | n + 1, c => match am_code P mi c.1 with
    | none => none
    | some ins => match am_cl P mi ins with
      | some _ => none
      | none => match am_rt P mi ins c.2.2.1 with
        | some _ => none
        | none => match am_st P mi ins c.1 c.2.1 c.2.2.1 c.2.2.2 with
          | some c' => am_go_ P mi n c'
          | none => none
theorem am_To.run (n : Nat) {Q : Option Value → am_M → Prop} (h : am_go_ P mi n (pc, lv, st, M) = some (pc', lv', st', M')) (k : am_To P mi pc' lv' st' M' Q) : am_To P mi pc lv st M Q := by
  induction n generalizing pc lv st M with
  | zero => cases h; exact k
  | succ n ih =>
    unfold am_go_ at h
    dsimp only at h
    split at h
    · cases h
    · rename_i ins hc
      split at h
      · cases h
      · rename_i hcl
        split at h
        · cases h
        · rename_i hrt
          split at h
          · rename_i c' hst
            obtain ⟨p1, l1, s1, m1⟩ := c'
            exact am_To.stp hc hcl hrt hst (ih h)
          · cases h
/-- a method's contract -/
def am_Mt (P : am_Pg) (mj : Nat) (as_ : List Value) (M : am_M) (Q : Option Value → am_M → Prop) : Prop := am_To P mj 0 (lv_args 0 as_) [] M Q
theorem am_Mt.mono {mj : Nat} {as_ : List Value} {Q Q' : Option Value → am_M → Prop} (h : am_Mt P mj as_ M Q) (hq : ∀ v M', Q v M' → Q' v M') : am_Mt P mj as_ M Q' := am_To.mono h hq
/-- a call, by the callee's contract -/
theorem am_To.mt {ins : Instr} {mj n : Nat} {as_ rest : List Value} {Q R : Option Value → am_M → Prop} (hm : am_Mt P mj as_ M R) (hc : am_code P mi pc = some ins) (hcl : am_cl P mi ins = some (mj, n)) (hrc : am_rc P mi ins mj n st M = true) (ha : (st.take n).reverse = as_) (hr : st.drop n = rest)
    (k : ∀ v M', R v M' → am_To P mi (pc + 3) lv (v.toList ++ rest) M' Q) : am_To P mi pc lv st M Q := by
  refine am_To.cal hc hcl hrc ?_
  rw [ha, hr]
  exact am_To.mono hm k
end AMT
/-- the law's run, as a triple -/
theorem pw_Run_of {L : Nat} {xs : Nat → Int32} (h : am_To (pw_P L xs) 0 0 (lv_args 0 [.retAddr 0]) [] ([], 0) (fun v M => v = some (.int 1) ∧ M.1.length ≤ 600000 ∧ M.2 ≤ 7302250)) : pw_Run L xs := by
  obtain ⟨f, v, M, h1, rfl, h2, h3⟩ := h
  exact ⟨f, M, h1, h2, h3⟩

end

/-! 49.kinds.lean.txt -/
section
/-! ===== printed by wip/gen/kinds.py: the kinds of all that the constructors make, by the places of the pure heap ===== -/
/-- a kind: an object (class; its fields: a word, or a reference: kind, how far on) or an array (kind of array, length, of references: kind, how far on, stride; stride 0: the row of a history) -/
abbrev fl_K : Type := (Nat × List (Option (Nat × Nat))) ⊕ (Nat × Nat × Nat × Nat × Nat)
/-- 0 PackWatch; 1 State@now; 2 cells@now; 3 Told@now; 4 settings@now; 5 stuckHow@now; 6 prices@now; 7 zones@now; 8 pieces@now; 9 rules@now; 10 Watch@now; 11 whens@now; 12 culprits@now; 13 Book@now; 14 bookRow@now; 15 marks@now; 16 Trace@now; 17 traceRow@now; 18 Cell@now; 19 Turns@now; 20 at@now; 21 cycles@now; 22 Mark@now; 23 parts@now; 24 throughs@now; 25 State@sto; 26 cells@sto; 27 Told@sto; 28 settings@sto; 29 stuckHow@sto; 30 prices@sto; 31 zones@sto; 32 pieces@sto; 33 rules@sto; 34 Watch@sto; 35 whens@sto; 36 culprits@sto; 37 Book@sto; 38 bookRow@sto; 39 marks@sto; 40 Trace@sto; 41 traceRow@sto; 42 Cell@sto; 43 Turns@sto; 44 at@sto; 45 cycles@sto; 46 Mark@sto; 47 parts@sto; 48 throughs@sto; 49 State@tri; 50 cells@tri; 51 Told@tri; 52 settings@tri; 53 stuckHow@tri; 54 prices@tri; 55 zones@tri; 56 pieces@tri; 57 rules@tri; 58 Watch@tri; 59 whens@tri; 60 culprits@tri; 61 Book@tri; 62 bookRow@tri; 63 marks@tri; 64 Trace@tri; 65 traceRow@tri; 66 Cell@tri; 67 Turns@tri; 68 at@tri; 69 cycles@tri; 70 Mark@tri; 71 parts@tri; 72 throughs@tri; 73 History; 74 states; 75 plan; 76 Model; 77 bounds; 78 rests; 79 a; 80 image; 81 shuntPart; 82 aside; 83 least -/
def fk_kd_l : List fl_K := [.inl (8, [some (1, 1), some (25, 91), some (49, 181), some (73, 271), some (73, 273), some (75, 275), some (75, 276)]),
  .inl (4, [some (2, 1), some (3, 2), some (10, 9), some (15, 14), some (16, 15), none, none, none, none, none, none, none, none, none, none, none, none]),
  .inr (2, 16, 18, 16, 4),
  .inl (5, [some (4, 1), some (5, 2), some (6, 3), some (7, 4), some (8, 5), some (9, 6), none, none, none]),
  .inr (0, 30, 0, 0, 0),
  .inr (0, 3, 0, 0, 0),
  .inr (0, 24, 0, 0, 0),
  .inr (0, 12, 0, 0, 0),
  .inr (0, 48, 0, 0, 0),
  .inr (0, 40, 0, 0, 0),
  .inl (7, [some (11, 1), some (12, 2), some (13, 3), none, none, none, none]),
  .inr (0, 11, 0, 0, 0),
  .inr (0, 4, 0, 0, 0),
  .inl (2, [none, some (14, 1), none, none]),
  .inr (0, 72, 0, 0, 0),
  .inr (3, 3, 22, 67, 3),
  .inl (2, [none, some (17, 1), none, none]),
  .inr (0, 96, 0, 0, 0),
  .inl (0, [none, none, none, none, none, none, none, none, none, none, none, none, none, none, none, none, none, none, none, some (19, 1)]),
  .inl (6, [some (20, 1), some (21, 2), none]),
  .inr (0, 32, 0, 0, 0),
  .inr (0, 11, 0, 0, 0),
  .inl (3, [some (23, 1), some (24, 2), none, none]),
  .inr (0, 16, 0, 0, 0),
  .inr (0, 16, 0, 0, 0),
  .inl (4, [some (26, 1), some (27, 2), some (34, 9), some (39, 14), some (40, 15), none, none, none, none, none, none, none, none, none, none, none, none]),
  .inr (2, 16, 42, 16, 4),
  .inl (5, [some (28, 1), some (29, 2), some (30, 3), some (31, 4), some (32, 5), some (33, 6), none, none, none]),
  .inr (0, 30, 0, 0, 0),
  .inr (0, 3, 0, 0, 0),
  .inr (0, 24, 0, 0, 0),
  .inr (0, 12, 0, 0, 0),
  .inr (0, 48, 0, 0, 0),
  .inr (0, 40, 0, 0, 0),
  .inl (7, [some (35, 1), some (36, 2), some (37, 3), none, none, none, none]),
  .inr (0, 11, 0, 0, 0),
  .inr (0, 4, 0, 0, 0),
  .inl (2, [none, some (38, 1), none, none]),
  .inr (0, 72, 0, 0, 0),
  .inr (3, 3, 46, 67, 3),
  .inl (2, [none, some (41, 1), none, none]),
  .inr (0, 96, 0, 0, 0),
  .inl (0, [none, none, none, none, none, none, none, none, none, none, none, none, none, none, none, none, none, none, none, some (43, 1)]),
  .inl (6, [some (44, 1), some (45, 2), none]),
  .inr (0, 32, 0, 0, 0),
  .inr (0, 11, 0, 0, 0),
  .inl (3, [some (47, 1), some (48, 2), none, none]),
  .inr (0, 16, 0, 0, 0),
  .inr (0, 16, 0, 0, 0),
  .inl (4, [some (50, 1), some (51, 2), some (58, 9), some (63, 14), some (64, 15), none, none, none, none, none, none, none, none, none, none, none, none]),
  .inr (2, 16, 66, 16, 4),
  .inl (5, [some (52, 1), some (53, 2), some (54, 3), some (55, 4), some (56, 5), some (57, 6), none, none, none]),
  .inr (0, 30, 0, 0, 0),
  .inr (0, 3, 0, 0, 0),
  .inr (0, 24, 0, 0, 0),
  .inr (0, 12, 0, 0, 0),
  .inr (0, 48, 0, 0, 0),
  .inr (0, 40, 0, 0, 0),
  .inl (7, [some (59, 1), some (60, 2), some (61, 3), none, none, none, none]),
  .inr (0, 11, 0, 0, 0),
  .inr (0, 4, 0, 0, 0),
  .inl (2, [none, some (62, 1), none, none]),
  .inr (0, 72, 0, 0, 0),
  .inr (3, 3, 70, 67, 3),
  .inl (2, [none, some (65, 1), none, none]),
  .inr (0, 96, 0, 0, 0),
  .inl (0, [none, none, none, none, none, none, none, none, none, none, none, none, none, none, none, none, none, none, none, some (67, 1)]),
  .inl (6, [some (68, 1), some (69, 2), none]),
  .inr (0, 32, 0, 0, 0),
  .inr (0, 11, 0, 0, 0),
  .inl (3, [some (71, 1), some (72, 2), none, none]),
  .inr (0, 16, 0, 0, 0),
  .inr (0, 16, 0, 0, 0),
  .inl (1, [some (74, 1), none, none]),
  .inr (4, 20, 25, 0, 0),
  .inr (1, 325, 0, 0, 0),
  .inl (9, [some (77, 1), some (78, 2), some (79, 3), some (80, 4), none, some (81, 5), none, none, some (82, 6), some (83, 7)]),
  .inr (0, 90, 0, 0, 0),
  .inr (0, 11, 0, 0, 0),
  .inr (0, 29780, 0, 0, 0),
  .inr (0, 29780, 0, 0, 0),
  .inr (0, 16, 0, 0, 0),
  .inr (0, 1418, 0, 0, 0),
  .inr (0, 16250, 0, 0, 0)]
def fk_K0 : List Nat := [0, 1, 2, 3, 4, 5, 6, 7, 8, 9, 10, 11, 12, 13, 14, 15, 16, 17, 18, 19, 20, 21, 18, 19, 20, 21, 18, 19, 20, 21, 18, 19, 20, 21, 18, 19, 20, 21, 18, 19, 20, 21, 18, 19, 20, 21, 18, 19, 20, 21, 18, 19, 20, 21, 18, 19, 20, 21, 18, 19, 20, 21, 18, 19, 20, 21, 18, 19, 20, 21, 18, 19, 20, 21, 18, 19, 20, 21, 18, 19, 20, 21, 22, 23, 24, 22, 23, 24, 22, 23, 24, 25, 26, 27, 28, 29, 30, 31, 32, 33, 34, 35, 36, 37, 38, 39, 40, 41, 42, 43, 44, 45, 42, 43, 44, 45, 42, 43, 44, 45, 42, 43, 44, 45, 42, 43, 44, 45, 42, 43, 44, 45, 42, 43, 44, 45, 42, 43, 44, 45, 42, 43, 44, 45, 42, 43, 44, 45, 42, 43, 44, 45, 42, 43, 44, 45, 42, 43, 44, 45, 42, 43, 44, 45, 42, 43, 44, 45, 42, 43, 44, 45, 46, 47, 48, 46, 47, 48, 46, 47, 48, 49, 50, 51, 52, 53, 54, 55, 56, 57, 58, 59, 60, 61, 62, 63, 64, 65, 66, 67, 68, 69, 66, 67, 68, 69, 66, 67, 68, 69, 66, 67, 68, 69, 66, 67, 68, 69, 66, 67, 68, 69, 66, 67, 68, 69, 66, 67, 68, 69, 66, 67, 68, 69, 66, 67, 68, 69, 66, 67, 68, 69, 66, 67, 68, 69, 66, 67, 68, 69, 66, 67, 68, 69, 66, 67, 68, 69, 66, 67, 68, 69, 70, 71, 72, 70, 71, 72, 70, 71, 72, 73, 74, 73, 74, 75, 75, 76, 77, 78, 79, 80, 81, 82, 83]
def fk_K1 : List Nat := [25, 26, 27, 28, 29, 30, 31, 32, 33, 34, 35, 36, 37, 38, 39, 40, 41, 42, 43, 44, 45, 42, 43, 44, 45, 42, 43, 44, 45, 42, 43, 44, 45, 42, 43, 44, 45, 42, 43, 44, 45, 42, 43, 44, 45, 42, 43, 44, 45, 42, 43, 44, 45, 42, 43, 44, 45, 42, 43, 44, 45, 42, 43, 44, 45, 42, 43, 44, 45, 42, 43, 44, 45, 42, 43, 44, 45, 42, 43, 44, 45, 46, 47, 48, 46, 47, 48, 46, 47, 48]
def fk_kd (t : Nat) : fl_K := fk_kd_l.getD t (.inr (9, 0, 0, 0, 0))
/-- the kind at a place: 285 places, then states of the histories, 90 places each -/
def fk_K (p : Nat) : Nat := if p < 285 then fk_K0.getD p 0 else fk_K1.getD ((p - 285) % 90) 0
def fl_N (h : Nat) : Nat := 285 + 90 * h
def fl_S (h : Nat) : Nat := 82750 + 1564 * h

end

/-! 50.flat.lean.txt -/
section
/-! ===== FLAT MEMORY: all that the two constructors make has its kind and its place (49); what changes is words: ints, longs, how many states were made ===== -/
/-- a value: int, long, reference (kind, place), table, float, double -/
abbrev fl_V : Type := Int32 ⊕ (Int64 ⊕ ((Nat × Nat) ⊕ (Nat ⊕ (UInt32 ⊕ UInt64))))
abbrev fl_M : Type := (Nat → Nat → Int32) × ((Nat → Nat → Int64) × Nat)
abbrev fl_L : Type := List (Option fl_V)
abbrev fl_C : Type := Nat × fl_L × List fl_V × fl_M
/-- what it is on the pure machine -/
def fl_c (v : fl_V) : Value := match v with
  | .inl x => .int x
  | .inr (.inl x) => .long x
  | .inr (.inr (.inl q)) => .ref q.2
  | .inr (.inr (.inr (.inl c))) => .retAddr c
  | .inr (.inr (.inr (.inr (.inl x)))) => .float x
  | .inr (.inr (.inr (.inr (.inr x)))) => .double x
def fl_cat (v : fl_V) : Nat := match v with
  | .inl _ => 1
  | .inr (.inl _) => 2
  | .inr (.inr (.inl _)) => 1
  | .inr (.inr (.inr (.inl _))) => 1
  | .inr (.inr (.inr (.inr (.inl _)))) => 1
  | .inr (.inr (.inr (.inr (.inr _)))) => 2
theorem fl_cat_c (v : fl_V) : (fl_c v).category = fl_cat v := by
  rcases v with x | x | q | c | x | x <;> rfl
def fl_fv (p : Nat) (w : Nat → Int32) (j : Nat) (f : Option (Nat × Nat)) : Value := match f with
  | none => .int (w j)
  | some q => .ref (p + q.2)
def fl_ob (k : fl_K) (p : Nat) (w : Nat → Int32) (l : Nat → Int64) : am_O := match k with
  | .inl (ci, fs) => .inr (ci, fs.mapIdx (fl_fv p w))
  | .inr (0, n, _) => .inl (0, n, .inl w)
  | .inr (1, n, _) => .inl (1, n, .inr (.inl l))
  | .inr (t, n, _, b, m) => .inl (t, n, .inr (.inr (.inr (.inr (fun i => if i < n then (if m = 0 then (if w i = 0 then none else some (w i).toNatClampNeg) else some (p + b + m * i)) else none)))))
/-- the memory as the pure machine has it -/
def fl_H (m : fl_M) : am_M := ((List.range (fl_N m.2.2)).map (fun p => fl_ob (fk_kd (fk_K p)) p (m.1 p) (m.2.1 p)), fl_S m.2.2)
def fl_up (f : Nat → Nat → Int32) (p k : Nat) (v : Int32) : Nat → Nat → Int32 := fun q j => if q = p ∧ j = k then v else f q j
def fl_row (f : Nat → Nat → Int32) (p : Nat) (w : Nat → Int32) : Nat → Nat → Int32 := fun q j => if q = p then w j else f q j
def fl_upL (f : Nat → Nat → Int64) (p k : Nat) (v : Int64) : Nat → Nat → Int64 := fun q j => if q = p ∧ j = k then v else f q j
theorem fl_get {m : fl_M} {p : Nat} (h : p < fl_N m.2.2) : (fl_H m).1[p]? = some (fl_ob (fk_kd (fk_K p)) p (m.1 p) (m.2.1 p)) := by
  simp [fl_H, h]
theorem fl_row_self (f : Nat → Nat → Int32) (p : Nat) (w : Nat → Int32) : fl_row f p w p = w := by
  funext j
  simp [fl_row]
theorem fl_row_ne {f : Nat → Nat → Int32} {p q : Nat} {w : Nat → Int32} (h : q ≠ p) : fl_row f p w q = f q := by
  funext j
  simp [fl_row, h]
theorem fl_setR {m : fl_M} {p : Nat} {w : Nat → Int32} (h : p < fl_N m.2.2) : ((fl_H m).1.set p (fl_ob (fk_kd (fk_K p)) p w (m.2.1 p)), (fl_H m).2) = fl_H (fl_row m.1 p w, m.2) := by
  unfold fl_H
  refine Prod.ext ?_ rfl
  refine List.ext_getElem? (fun q => ?_)
  by_cases hq : q = p
  · subst hq
    simp [List.getElem?_set, h, fl_row_self]
  · rw [List.getElem?_set_ne (Ne.symm hq)]
    by_cases h2 : q < fl_N m.2.2
    · simp [h2, fl_row_ne hq]
    · simp [h2]
theorem fl_setL {m : fl_M} {p : Nat} {l : Nat → Int64} (h : p < fl_N m.2.2) : ((fl_H m).1.set p (fl_ob (fk_kd (fk_K p)) p (m.1 p) l), (fl_H m).2) = fl_H (m.1, (fun q j => if q = p then l j else m.2.1 q j), m.2.2) := by
  unfold fl_H
  refine Prod.ext ?_ rfl
  refine List.ext_getElem? (fun q => ?_)
  by_cases hq : q = p
  · subst hq
    simp [List.getElem?_set, h]
  · rw [List.getElem?_set_ne (Ne.symm hq)]
    by_cases h2 : q < fl_N m.2.2
    · simp [h2, hq]
    · simp [h2]
theorem fl_up_row (f : Nat → Nat → Int32) (p k : Nat) (v : Int32) : fl_up f p k v = fl_row f p (upd (f p) k v) := by
  funext q j
  unfold fl_up fl_row upd
  by_cases h1 : q = p <;> by_cases h2 : j = k <;> simp [h1, h2]
/-- a field is written -/
theorem fl_fset {p k : Nat} {w : Nat → Int32} {fs : List (Option (Nat × Nat))} {x : Int32} (h : fs[k]? = some none) : (fs.mapIdx (fl_fv p w)).set k (.int x) = fs.mapIdx (fl_fv p (upd w k x)) := by
  refine List.ext_getElem? (fun j => ?_)
  by_cases hj : j = k
  · subst hj
    have hl : j < fs.length := (List.getElem?_eq_some_iff.mp h).1
    rw [List.getElem?_set_self (by simpa using hl)]
    simp [List.getElem?_mapIdx, h, fl_fv, upd]
  · rw [List.getElem?_set_ne (Ne.symm hj)]
    simp only [List.getElem?_mapIdx]
    cases fs[j]? with
    | none => rfl
    | some o => cases o <;> simp [fl_fv, upd, hj]
/-- references that hold: the kind is right, the place is made -/
def fl_ok (h : Nat) (v : fl_V) : Prop := match v with
  | .inr (.inr (.inl q)) => fk_K q.2 = q.1 ∧ q.2 < fl_N h
  | _ => True
def fk_okf (K : Nat → Nat) (lim p : Nat) : Bool := match fk_kd (K p) with
  | .inl (_, fs) => fs.all (fun f => match f with
    | none => true
    | some q => decide (p + q.2 < lim) && decide (K (p + q.2) = q.1))
  | .inr (_, n, t, b, m) => decide (m = 0) || (List.range n).all (fun i => decide (p + b + m * i < lim) && decide (K (p + b + m * i) = t))
set_option maxRecDepth 100000 in
theorem fk_ok0 : (List.range 285).all (fk_okf (fun p => fk_K0.getD p 0) 285) = true := by decide +kernel
set_option maxRecDepth 100000 in
theorem fk_ok1 : (List.range 90).all (fk_okf (fun p => fk_K1.getD p 0) 90) = true := by decide +kernel
theorem fk_K_lo {p : Nat} (h : p < 285) : fk_K p = fk_K0.getD p 0 := by simp [fk_K, h]
theorem fk_K_hi {r q : Nat} (h : r < 90) : fk_K (285 + 90 * q + r) = fk_K1.getD r 0 := by
  unfold fk_K
  rw [if_neg (by omega)]
  have e : (285 + 90 * q + r - 285) % 90 = r := by omega
  rw [e]
/-- a field that is a reference leads to its kind -/
theorem fk_fld {h p ci k : Nat} {fs : List (Option (Nat × Nat))} {q : Nat × Nat} (hp : p < fl_N h) (hk : fk_kd (fk_K p) = .inl (ci, fs)) (hf : fs[k]? = some (some q)) : fk_K (p + q.2) = q.1 ∧ p + q.2 < fl_N h := by
  unfold fl_N at hp ⊢
  by_cases hl : p < 285
  · have H := List.all_eq_true.mp fk_ok0 p (List.mem_range.mpr hl)
    rw [fk_K_lo hl] at hk
    unfold fk_okf at H
    rw [hk] at H
    have := List.all_eq_true.mp H _ (List.mem_of_getElem? hf)
    simp only [Bool.and_eq_true, decide_eq_true_eq] at this
    exact ⟨(fk_K_lo this.1).trans this.2, by omega⟩
  · obtain ⟨d, r, hr, rfl⟩ : ∃ d r, r < 90 ∧ p = 285 + 90 * d + r := ⟨(p - 285) / 90, (p - 285) % 90, Nat.mod_lt _ (by decide), by omega⟩
    have H := List.all_eq_true.mp fk_ok1 r (List.mem_range.mpr hr)
    rw [fk_K_hi hr] at hk
    unfold fk_okf at H
    rw [hk] at H
    have := List.all_eq_true.mp H _ (List.mem_of_getElem? hf)
    simp only [Bool.and_eq_true, decide_eq_true_eq] at this
    refine ⟨?_, by omega⟩
    rw [Nat.add_assoc, fk_K_hi this.1]
    exact this.2
theorem fk_elt {h p t n τ b m i : Nat} (hp : p < fl_N h) (hk : fk_kd (fk_K p) = .inr (t, n, τ, b, m)) (hm : m ≠ 0) (hi : i < n) : fk_K (p + b + m * i) = τ ∧ p + b + m * i < fl_N h := by
  unfold fl_N at hp ⊢
  by_cases hl : p < 285
  · have H := List.all_eq_true.mp fk_ok0 p (List.mem_range.mpr hl)
    rw [fk_K_lo hl] at hk
    unfold fk_okf at H
    rw [hk] at H
    simp only [Bool.or_eq_true, decide_eq_true_eq] at H
    have := List.all_eq_true.mp (H.resolve_left hm) _ (List.mem_range.mpr hi)
    simp only [Bool.and_eq_true, decide_eq_true_eq] at this
    exact ⟨(fk_K_lo this.1).trans this.2, by omega⟩
  · obtain ⟨d, r, hr, rfl⟩ : ∃ d r, r < 90 ∧ p = 285 + 90 * d + r := ⟨(p - 285) / 90, (p - 285) % 90, Nat.mod_lt _ (by decide), by omega⟩
    have H := List.all_eq_true.mp fk_ok1 r (List.mem_range.mpr hr)
    rw [fk_K_hi hr] at hk
    unfold fk_okf at H
    rw [hk] at H
    simp only [Bool.or_eq_true, decide_eq_true_eq] at H
    have := List.all_eq_true.mp (H.resolve_left hm) _ (List.mem_range.mpr hi)
    simp only [Bool.and_eq_true, decide_eq_true_eq] at this
    refine ⟨?_, by omega⟩
    have e : 285 + 90 * d + r + b + m * i = 285 + 90 * d + (r + b + m * i) := by omega
    rw [e, fk_K_hi this.1]
    exact this.2

end

/-! 51.flatst.lean.txt -/
section
/-! ===== one instruction over flat memory; it is the pure machine's own (fl_tie) ===== -/
def fl_s0 (lv : fl_L) (i : Nat) : fl_L := match i with
  | 0 => lv
  | j + 1 => match lv[j]? with
    | some (some w) => if fl_cat w = 2 then lv.set j none else lv
    | _ => lv
def fl_s (lv : fl_L) (i : Nat) (v : fl_V) : fl_L := if fl_cat v = 2 then ((fl_s0 lv i).set i (some v)).set (i + 1) none else (fl_s0 lv i).set i (some v)
def fl_LR (lv : fl_L) (la : am_L) : Prop := ∀ (i : Nat) (v : fl_V), lv[i]? = some (some v) → am_lk la i = some (fl_c v)
def fl_ld (w : Nat) (o : Option (Option fl_V)) : Option fl_V := match w, o with
  | 0, some (some (.inl x)) => some (.inl x)
  | 1, some (some (.inr (.inl x))) => some (.inr (.inl x))
  | 4, some (some (.inr (.inr (.inl q)))) => some (.inr (.inr (.inl q)))
  | 4, some (some (.inr (.inr (.inr (.inl c))))) => some (.inr (.inr (.inr (.inl c))))
  | 2, some (some (.inr (.inr (.inr (.inr (.inl x)))))) => some (.inr (.inr (.inr (.inr (.inl x)))))
  | 3, some (some (.inr (.inr (.inr (.inr (.inr x)))))) => some (.inr (.inr (.inr (.inr (.inr x)))))
  | _, _ => none
def fl_pu (n pc : Nat) (lv : fl_L) (st : List fl_V) (m : fl_M) (o : Option fl_V) : Option fl_C := match o with
  | some v => some (pc + n, lv, v :: st, m)
  | none => none
def fl_so (w n pc i nL : Nat) (lv : fl_L) (st : List fl_V) (m : fl_M) : Option fl_C := match st with
  | v :: r => match fl_ld w (some (some v)) with
    | none => none
    | some _ => if fl_cat v = 2 then (if i + 1 < nL then some (pc + n, fl_s lv i v, r, m) else none) else if i < nL then some (pc + n, fl_s lv i v, r, m) else none
  | [] => none
def fl_I (pc : Nat) (lv : fl_L) (st : List fl_V) (m : fl_M) (g : Int32 → Int32 → Int32) : Option fl_C := match st with
  | .inl y :: .inl x :: r => some (pc + 1, lv, .inl (g x y) :: r, m)
  | _ => none
def fl_ID (pc : Nat) (lv : fl_L) (st : List fl_V) (m : fl_M) (g : Int32 → Int32 → Int32) : Option fl_C := match st with
  | .inl y :: .inl x :: r => if y = 0 then none else some (pc + 1, lv, .inl (g x y) :: r, m)
  | _ => none
def fl_J (pc : Nat) (lv : fl_L) (st : List fl_V) (m : fl_M) (g : Int64 → Int64 → Int64) : Option fl_C := match st with
  | .inr (.inl y) :: .inr (.inl x) :: r => some (pc + 1, lv, .inr (.inl (g x y)) :: r, m)
  | _ => none
def fl_JD (pc : Nat) (lv : fl_L) (st : List fl_V) (m : fl_M) (g : Int64 → Int64 → Int64) : Option fl_C := match st with
  | .inr (.inl y) :: .inr (.inl x) :: r => if y = 0 then none else some (pc + 1, lv, .inr (.inl (g x y)) :: r, m)
  | _ => none
def fl_JI (pc : Nat) (lv : fl_L) (st : List fl_V) (m : fl_M) (g : Int64 → Int32 → Int64) : Option fl_C := match st with
  | .inl y :: .inr (.inl x) :: r => some (pc + 1, lv, .inr (.inl (g x y)) :: r, m)
  | _ => none
def fl_br (b : Bool) (pc : Nat) (off : Int) (lv : fl_L) (r : List fl_V) (m : fl_M) : Option fl_C := match am_tg pc off with
  | some t => bif b then some (t, lv, r, m) else some (pc + 3, lv, r, m)
  | none => none
def fl_go (pc : Nat) (off : Int) (lv : fl_L) (r : List fl_V) (m : fl_M) : Option fl_C := match am_tg pc off with
  | some t => some (t, lv, r, m)
  | none => none
def fl_gf (P : am_Pg) (own idx pc : Nat) (lv : fl_L) (st : List fl_V) (m : fl_M) : Option fl_C := match st with
  | .inr (.inr (.inl (τ, p))) :: r => match am_fld P own idx, fk_kd τ with
    | some (ci, k), .inl (cj, fs) => if ci = cj then (match fs[k]? with
      | some none => some (pc + 3, lv, .inl (m.1 p k) :: r, m)
      | some (some q) => some (pc + 3, lv, .inr (.inr (.inl (q.1, p + q.2))) :: r, m)
      | none => none) else none
    | _, _ => none
  | _ => none
def fl_pf (P : am_Pg) (mi own idx pc : Nat) (lv : fl_L) (st : List fl_V) (m : fl_M) : Option fl_C := match st with
  | .inl x :: .inr (.inr (.inl (τ, p))) :: r => match am_fld P own idx, fk_kd τ with
    | some (ci, k), .inl (cj, fs) => match fs[k]? with
      | some none => bif decide (ci = cj) && (am_ft (am_fty P ci k) (.int x) && (!am_fin P ci k || (am_ini P mi && decide (own = ci)))) then some (pc + 3, lv, r, (fl_up m.1 p k x, m.2)) else none
      | _ => none
    | _, _ => none
  | _ => none
def fl_ald (P : am_Pg) (pc : Nat) (lv : fl_L) (st : List fl_V) (m : fl_M) : Option fl_C := match st with
  | .inl i :: .inr (.inr (.inl (τ, p))) :: r => match fk_kd τ with
    | .inr (0, n, _) => bif am_in i n then some (pc + 1, lv, .inl (m.1 p i.toNatClampNeg) :: r, m) else none
    | _ => none
  | .inl i :: .inr (.inr (.inr (.inl c))) :: r => match am_cst P c with
    | some (n, f) => bif am_in i n then some (pc + 1, lv, .inl (f i.toNatClampNeg) :: r, m) else none
    | _ => none
  | _ => none
def fl_ast (pc : Nat) (lv : fl_L) (st : List fl_V) (m : fl_M) : Option fl_C := match st with
  | .inl x :: .inl i :: .inr (.inr (.inl (τ, p))) :: r => match fk_kd τ with
    | .inr (0, n, _) => bif am_in i n then some (pc + 1, lv, r, (fl_up m.1 p i.toNatClampNeg x, m.2)) else none
    | _ => none
  | _ => none
def fl_lald (pc : Nat) (lv : fl_L) (st : List fl_V) (m : fl_M) : Option fl_C := match st with
  | .inl i :: .inr (.inr (.inl (τ, p))) :: r => match fk_kd τ with
    | .inr (1, n, _) => bif am_in i n then some (pc + 1, lv, .inr (.inl (m.2.1 p i.toNatClampNeg)) :: r, m) else none
    | _ => none
  | _ => none
def fl_last (pc : Nat) (lv : fl_L) (st : List fl_V) (m : fl_M) : Option fl_C := match st with
  | .inr (.inl x) :: .inl i :: .inr (.inr (.inl (τ, p))) :: r => match fk_kd τ with
    | .inr (1, n, _) => bif am_in i n then some (pc + 1, lv, r, (m.1, fl_upL m.2.1 p i.toNatClampNeg x, m.2.2)) else none
    | _ => none
  | _ => none
def fl_qald (pc : Nat) (lv : fl_L) (st : List fl_V) (m : fl_M) : Option fl_C := match st with
  | .inl i :: .inr (.inr (.inl (τ, p))) :: r => match fk_kd τ with
    | .inr (t, n, τ', b, d) => bif decide (2 ≤ t ∧ t < 5) && (decide (d ≠ 0) && am_in i n) then some (pc + 1, lv, .inr (.inr (.inl (τ', p + b + d * i.toNatClampNeg))) :: r, m) else none
    | _ => none
  | _ => none
def fl_len (P : am_Pg) (pc : Nat) (lv : fl_L) (st : List fl_V) (m : fl_M) : Option fl_C := match st with
  | .inr (.inr (.inl (τ, _))) :: r => match fk_kd τ with
    | .inr (t, n, _) => if t < 5 then some (pc + 1, lv, .inl (Int32.ofNat n) :: r, m) else none
    | _ => none
  | .inr (.inr (.inr (.inl c))) :: r => match am_cst P c with
    | some (n, _) => some (pc + 1, lv, .inl (Int32.ofNat n) :: r, m)
    | none => none
  | _ => none
def fl_sum (st : List fl_V) : Nat := (st.map fl_cat).sum
/-- arraycopy of ints -/
def fl_n1 (pc : Nat) (lv : fl_L) (st : List fl_V) (m : fl_M) : Option fl_C := match st with
  | .inl n :: .inl dp :: .inr (.inr (.inl (τb, b))) :: .inl sp :: .inr (.inr (.inl (τa, a))) :: r => match fk_kd τa, fk_kd τb with
    | .inr (0, n0, _), .inr (0, n1, _) => bif decide (fl_sum r ≤ 8) && (!(decide (sp < 0)) && (!(decide (dp < 0)) && (!(decide (n < 0)) && (decide (sp.toNatClampNeg + n.toNatClampNeg ≤ n0) && decide (dp.toNatClampNeg + n.toNatClampNeg ≤ n1))))) then some (pc + 3, lv, r, (fl_row m.1 b (va_cpy (m.1 a) (m.1 b) sp.toNatClampNeg dp.toNatClampNeg n.toNatClampNeg), m.2)) else none
    | _, _ => none
  | _ => none
def fl_st (P : am_Pg) (mi : Nat) (ins : Instr) (pc : Nat) (lv : fl_L) (st : List fl_V) (m : fl_M) : Option fl_C := match ins with
  | .iconst n => some (pc + 1, lv, .inl (Int32.ofInt n) :: st, m)
  | .bipush n => some (pc + 2, lv, .inl (Int8.ofInt n).toInt32 :: st, m)
  | .sipush n => some (pc + 3, lv, .inl (Int16.ofInt n).toInt32 :: st, m)
  | .lconst n => some (pc + 1, lv, .inr (.inl (Int64.ofNat (n : Nat))) :: st, m)
  | .ldc i => match am_con P (am_own P mi) i with
    | some (.int v) => some (pc + 2, lv, .inl v :: st, m)
    | _ => none
  | .ldc_w i => match am_con P (am_own P mi) i with
    | some (.int v) => some (pc + 3, lv, .inl v :: st, m)
    | _ => none
  | .ldc2_w i => match am_con P (am_own P mi) i with
    | some (.long v) => some (pc + 3, lv, .inr (.inl v) :: st, m)
    | _ => none
  | .iload_n k => fl_pu 1 pc lv st m (fl_ld 0 lv[(k : Nat)]?)
  | .lload_n k => fl_pu 1 pc lv st m (fl_ld 1 lv[(k : Nat)]?)
  | .aload_n k => fl_pu 1 pc lv st m (fl_ld 4 lv[(k : Nat)]?)
  | .iload i => fl_pu 2 pc lv st m (fl_ld 0 lv[(i : Nat)]?)
  | .lload i => fl_pu 2 pc lv st m (fl_ld 1 lv[(i : Nat)]?)
  | .aload i => fl_pu 2 pc lv st m (fl_ld 4 lv[(i : Nat)]?)
  | .istore_n k => fl_so 0 1 pc k (am_mxl P mi) lv st m
  | .lstore_n k => fl_so 1 1 pc k (am_mxl P mi) lv st m
  | .astore_n k => fl_so 4 1 pc k (am_mxl P mi) lv st m
  | .istore i => fl_so 0 2 pc i (am_mxl P mi) lv st m
  | .lstore i => fl_so 1 2 pc i (am_mxl P mi) lv st m
  | .astore i => fl_so 4 2 pc i (am_mxl P mi) lv st m
  | .iinc i n => match lv[(i : Nat)]? with
    | some (some (.inl x)) => if i < am_mxl P mi then some (pc + 3, fl_s lv i (.inl (x + Int32.ofInt n)), st, m) else none
    | _ => none
  | .iadd => fl_I pc lv st m (· + ·)
  | .isub => fl_I pc lv st m (· - ·)
  | .imul => fl_I pc lv st m (· * ·)
  | .iand => fl_I pc lv st m (· &&& ·)
  | .ior => fl_I pc lv st m (· ||| ·)
  | .ixor => fl_I pc lv st m (· ^^^ ·)
  | .ishl => fl_I pc lv st m (fun x y => x <<< (y &&& 31))
  | .ishr => fl_I pc lv st m (fun x y => x >>> (y &&& 31))
  | .iushr => fl_I pc lv st m (fun x y => (x.toUInt32 >>> (y.toUInt32 &&& Int32.toUInt32 31)).toInt32)
  | .idiv => fl_ID pc lv st m (fun x y => x / y)
  | .irem => fl_ID pc lv st m (fun x y => x - (x / y) * y)
  | .ineg => match st with
    | .inl x :: r => some (pc + 1, lv, .inl (-x) :: r, m)
    | _ => none
  | .ladd => fl_J pc lv st m (· + ·)
  | .lsub => fl_J pc lv st m (· - ·)
  | .lmul => fl_J pc lv st m (· * ·)
  | .land => fl_J pc lv st m (· &&& ·)
  | .ldiv => fl_JD pc lv st m (fun x y => x / y)
  | .lshl => fl_JI pc lv st m (fun x y => x <<< (y.toInt64 &&& 63))
  | .lshr => fl_JI pc lv st m (fun x y => x >>> (y.toInt64 &&& 63))
  | .lcmp => match st with
    | .inr (.inl y) :: .inr (.inl x) :: r => some (pc + 1, lv, .inl (lg_cmp x y) :: r, m)
    | _ => none
  | .i2l => match st with
    | .inl x :: r => some (pc + 1, lv, .inr (.inl x.toInt64) :: r, m)
    | _ => none
  | .l2i => match st with
    | .inr (.inl x) :: r => some (pc + 1, lv, .inl x.toInt32 :: r, m)
    | _ => none
  | .dup => match st with
    | v :: r => if fl_cat v = 1 then some (pc + 1, lv, v :: v :: r, m) else none
    | _ => none
  | .pop => match st with
    | v :: r => if fl_cat v = 1 then some (pc + 1, lv, r, m) else none
    | _ => none
  | .pop2 => match st with
    | v :: r => if fl_cat v = 2 then some (pc + 1, lv, r, m) else none
    | _ => none
  | .dup2 => match st with
    | v :: w :: r => if fl_cat v = 1 ∧ fl_cat w = 1 then some (pc + 1, lv, v :: w :: v :: w :: r, m) else none
    | _ => none
  | .ifCond c off => match st with
    | .inl x :: r => fl_br (am_c1 c x) pc off lv r m
    | _ => none
  | .if_icmp c off => match st with
    | .inl y :: .inl x :: r => fl_br (am_c2 c x y) pc off lv r m
    | _ => none
  | .goto off => fl_go pc off lv st m
  | .tableswitch d lo hi offs => match st with
    | .inl x :: r => bif am_swk x lo hi offs then fl_go pc (am_sw x d lo hi offs) lv r m else none
    | _ => none
  | .getfield i => fl_gf P (am_own P mi) i pc lv st m
  | .putfield i => fl_pf P mi (am_own P mi) i pc lv st m
  | .getstatic i => match am_sta P (am_own P mi) i with
    | some c => some (pc + 3, lv, .inr (.inr (.inr (.inl c))) :: st, m)
    | none => none
  | .iaload => fl_ald P pc lv st m
  | .iastore => fl_ast pc lv st m
  | .laload => fl_lald pc lv st m
  | .lastore => fl_last pc lv st m
  | .aaload => fl_qald pc lv st m
  | .arraylength => fl_len P pc lv st m
  | .invokestatic _ => match am_ntk P mi ins with
    | some 1 => fl_n1 pc lv st m
    | _ => none
  | _ => none

end
