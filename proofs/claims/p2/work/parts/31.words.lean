/-! ===== printed by wip/gen/good.py: the program is what the claim's tables say ===== -/
theorem pw_in {ws : List Cond} {ix : List Nat} (h : ws = ix.filterMap (fun i => lw_tbl[i]?)) : ∀ w ∈ ws, w ∈ lw_tbl := by
  intro w hw
  rw [h] at hw
  obtain ⟨i, -, hi⟩ := List.mem_filterMap.mp hw
  exact List.mem_of_getElem? hi
set_option maxRecDepth 100000 in
theorem pw_e_lay : pw_Wlay = pw_Wlay_i.filterMap (fun i => lw_tbl[i]?) := by decide +kernel
set_option maxRecDepth 100000 in
theorem pw_g_lay : pw_Wlay.all goodWord = true := by decide +kernel
set_option maxRecDepth 100000 in
theorem pw_e_fl : pw_Wfl = pw_Wfl_i.filterMap (fun i => lw_tbl[i]?) := by decide +kernel
set_option maxRecDepth 100000 in
theorem pw_g_fl : pw_Wfl.all goodWord = true := by decide +kernel
set_option maxRecDepth 100000 in
theorem pw_e_st : pw_Wst = pw_Wst_i.filterMap (fun i => lw_tbl[i]?) := by decide +kernel
set_option maxRecDepth 100000 in
theorem pw_g_st : pw_Wst.all goodWord = true := by decide +kernel
set_option maxRecDepth 100000 in
theorem pw_e_co : pw_Wco = pw_Wco_i.filterMap (fun i => lw_tbl[i]?) := by decide +kernel
set_option maxRecDepth 100000 in
theorem pw_g_co : pw_Wco.all goodWord = true := by decide +kernel
set_option maxRecDepth 100000 in
theorem pw_e_nl : pw_Wnl = pw_Wnl_i.filterMap (fun i => lw_tbl[i]?) := by decide +kernel
set_option maxRecDepth 100000 in
theorem pw_g_nl : pw_Wnl.all goodWord = true := by decide +kernel
set_option maxRecDepth 100000 in
theorem pw_e_ni : pw_Wni = pw_Wni_i.filterMap (fun i => lw_tbl[i]?) := by decide +kernel
set_option maxRecDepth 100000 in
theorem pw_g_ni : pw_Wni.all goodWord = true := by decide +kernel
set_option maxRecDepth 100000 in
theorem pw_e_in : pw_Win = pw_Win_i.filterMap (fun i => lw_tbl[i]?) := by decide +kernel
set_option maxRecDepth 100000 in
theorem pw_g_in : pw_Win.all goodWord = true := by decide +kernel
set_option maxRecDepth 100000 in
theorem pw_e_ar : pw_War = pw_War_i.filterMap (fun i => lw_tbl[i]?) := by decide +kernel
set_option maxRecDepth 100000 in
theorem pw_g_ar : pw_War.all goodWord = true := by decide +kernel
set_option maxRecDepth 100000 in
theorem pw_e_na : pw_Wna = pw_Wna_i.filterMap (fun i => lw_tbl[i]?) := by decide +kernel
set_option maxRecDepth 100000 in
theorem pw_g_na : pw_Wna.all goodWord = true := by decide +kernel
set_option maxRecDepth 100000 in
theorem pw_e_ml : pw_Wml = pw_Wml_i.filterMap (fun i => lw_tbl[i]?) := by decide +kernel
set_option maxRecDepth 100000 in
theorem pw_g_ml : pw_Wml.all goodWord = true := by decide +kernel
set_option maxRecDepth 100000 in
theorem pw_e_sk : pw_Wsk = pw_Wsk_i.filterMap (fun i => lw_tbl[i]?) := by decide +kernel
set_option maxRecDepth 100000 in
theorem pw_g_sk : pw_Wsk.all goodWord = true := by decide +kernel
set_option maxRecDepth 100000 in
theorem pw_e_ik : pw_Wik = pw_Wik_i.filterMap (fun i => lw_tbl[i]?) := by decide +kernel
set_option maxRecDepth 100000 in
theorem pw_g_ik : pw_Wik.all goodWord = true := by decide +kernel
set_option maxRecDepth 100000 in
theorem pw_e_vk : pw_Wvk = pw_Wvk_i.filterMap (fun i => lw_tbl[i]?) := by decide +kernel
set_option maxRecDepth 100000 in
theorem pw_g_vk : pw_Wvk.all goodWord = true := by decide +kernel
set_option maxRecDepth 100000 in
theorem pw_en_fl : pw_Nfl = pw_Nfl_i.filterMap (fun i => lw_tbl[i]?) := by decide +kernel
set_option maxRecDepth 100000 in
theorem pw_en_st : pw_Nst = pw_Nst_i.filterMap (fun i => lw_tbl[i]?) := by decide +kernel
set_option maxRecDepth 100000 in
theorem pw_en_ml : pw_Nml = pw_Nml_i.filterMap (fun i => lw_tbl[i]?) := by decide +kernel
set_option maxRecDepth 100000 in
theorem pw_en_ao : pw_Nao = pw_Nao_i.filterMap (fun i => lw_tbl[i]?) := by decide +kernel
theorem pw_tb_0 {w : Cond} (h : w ∈ tables_1_1) : w ∈ lw_tbl := List.mem_append_right _ (show w ∈ tables_1 from List.mem_append_left _ h)
theorem pw_tb_1 {w : Cond} (h : w ∈ tables_1_2) : w ∈ lw_tbl := List.mem_append_right _ (show w ∈ tables_1 from List.mem_append_right _ (List.mem_append_left _ h))
theorem pw_tb_2 {w : Cond} (h : w ∈ tables_1_3) : w ∈ lw_tbl := List.mem_append_right _ (show w ∈ tables_1 from List.mem_append_right _ (List.mem_append_right _ (List.mem_append_left _ h)))
theorem pw_tb_3 {w : Cond} (h : w ∈ tables_1_4) : w ∈ lw_tbl := List.mem_append_right _ (show w ∈ tables_1 from List.mem_append_right _ (List.mem_append_right _ (List.mem_append_right _ (List.mem_append_left _ h))))
theorem pw_tb_4 {w : Cond} (h : w ∈ tables_1_5) : w ∈ lw_tbl := List.mem_append_right _ (show w ∈ tables_1 from List.mem_append_right _ (List.mem_append_right _ (List.mem_append_right _ (List.mem_append_right _ (List.mem_append_left _ h)))))
theorem pw_tb_5 {w : Cond} (h : w ∈ tables_1_6) : w ∈ lw_tbl := List.mem_append_right _ (show w ∈ tables_1 from List.mem_append_right _ (List.mem_append_right _ (List.mem_append_right _ (List.mem_append_right _ (List.mem_append_right _ (List.mem_append_left _ h))))))
theorem pw_tb_6 {w : Cond} (h : w ∈ tables_1_7) : w ∈ lw_tbl := List.mem_append_right _ (show w ∈ tables_1 from List.mem_append_right _ (List.mem_append_right _ (List.mem_append_right _ (List.mem_append_right _ (List.mem_append_right _ (List.mem_append_right _ (List.mem_append_left _ h)))))))
theorem pw_tb_7 {w : Cond} (h : w ∈ tables_1_8) : w ∈ lw_tbl := List.mem_append_right _ (show w ∈ tables_1 from List.mem_append_right _ (List.mem_append_right _ (List.mem_append_right _ (List.mem_append_right _ (List.mem_append_right _ (List.mem_append_right _ (List.mem_append_right _ (h))))))))
theorem pw_cd_1 : Cond.code (pw_y 1) (pw_cc 1) (pw_mxl 1) (pw_ret 1) ∈ lw_tbl := pw_tb_0 (List.mem_of_getElem? (i := 160) rfl)
theorem pw_cd_2 : Cond.code (pw_y 2) (pw_cc 2) (pw_mxl 2) (pw_ret 2) ∈ lw_tbl := pw_tb_1 (List.mem_of_getElem? (i := 213) rfl)
theorem pw_cd_3 : Cond.code (pw_y 3) (pw_cc 3) (pw_mxl 3) (pw_ret 3) ∈ lw_tbl := pw_tb_1 (List.mem_of_getElem? (i := 174) rfl)
theorem pw_cd_4 : Cond.code (pw_y 4) (pw_cc 4) (pw_mxl 4) (pw_ret 4) ∈ lw_tbl := pw_tb_1 (List.mem_of_getElem? (i := 224) rfl)
theorem pw_cd_5 : Cond.code (pw_y 5) (pw_cc 5) (pw_mxl 5) (pw_ret 5) ∈ lw_tbl := pw_tb_1 (List.mem_of_getElem? (i := 220) rfl)
theorem pw_cd_6 : Cond.code (pw_y 6) (pw_cc 6) (pw_mxl 6) (pw_ret 6) ∈ lw_tbl := pw_tb_2 (List.mem_of_getElem? (i := 120) rfl)
theorem pw_cd_7 : Cond.code (pw_y 7) (pw_cc 7) (pw_mxl 7) (pw_ret 7) ∈ lw_tbl := pw_tb_3 (List.mem_of_getElem? (i := 158) rfl)
theorem pw_cd_8 : Cond.code (pw_y 8) (pw_cc 8) (pw_mxl 8) (pw_ret 8) ∈ lw_tbl := pw_tb_2 (List.mem_of_getElem? (i := 53) rfl)
theorem pw_cd_9 : Cond.code (pw_y 9) (pw_cc 9) (pw_mxl 9) (pw_ret 9) ∈ lw_tbl := pw_tb_2 (List.mem_of_getElem? (i := 89) rfl)
theorem pw_cd_10 : Cond.code (pw_y 10) (pw_cc 10) (pw_mxl 10) (pw_ret 10) ∈ lw_tbl := pw_tb_2 (List.mem_of_getElem? (i := 109) rfl)
theorem pw_cd_11 : Cond.code (pw_y 11) (pw_cc 11) (pw_mxl 11) (pw_ret 11) ∈ lw_tbl := pw_tb_2 (List.mem_of_getElem? (i := 116) rfl)
theorem pw_cd_12 : Cond.code (pw_y 12) (pw_cc 12) (pw_mxl 12) (pw_ret 12) ∈ lw_tbl := pw_tb_2 (List.mem_of_getElem? (i := 140) rfl)
theorem pw_cd_13 : Cond.code (pw_y 13) (pw_cc 13) (pw_mxl 13) (pw_ret 13) ∈ lw_tbl := pw_tb_2 (List.mem_of_getElem? (i := 150) rfl)
theorem pw_cd_14 : Cond.code (pw_y 14) (pw_cc 14) (pw_mxl 14) (pw_ret 14) ∈ lw_tbl := pw_tb_2 (List.mem_of_getElem? (i := 158) rfl)
theorem pw_cd_15 : Cond.code (pw_y 15) (pw_cc 15) (pw_mxl 15) (pw_ret 15) ∈ lw_tbl := pw_tb_2 (List.mem_of_getElem? (i := 163) rfl)
theorem pw_cd_16 : Cond.code (pw_y 16) (pw_cc 16) (pw_mxl 16) (pw_ret 16) ∈ lw_tbl := pw_tb_2 (List.mem_of_getElem? (i := 227) rfl)
theorem pw_cd_17 : Cond.code (pw_y 17) (pw_cc 17) (pw_mxl 17) (pw_ret 17) ∈ lw_tbl := pw_tb_3 (List.mem_of_getElem? (i := 196) rfl)
theorem pw_cd_18 : Cond.code (pw_y 18) (pw_cc 18) (pw_mxl 18) (pw_ret 18) ∈ lw_tbl := pw_tb_3 (List.mem_of_getElem? (i := 154) rfl)
theorem pw_cd_19 : Cond.code (pw_y 19) (pw_cc 19) (pw_mxl 19) (pw_ret 19) ∈ lw_tbl := pw_tb_1 (List.mem_of_getElem? (i := 109) rfl)
theorem pw_cd_20 : Cond.code (pw_y 20) (pw_cc 20) (pw_mxl 20) (pw_ret 20) ∈ lw_tbl := pw_tb_1 (List.mem_of_getElem? (i := 157) rfl)
theorem pw_cd_21 : Cond.code (pw_y 21) (pw_cc 21) (pw_mxl 21) (pw_ret 21) ∈ lw_tbl := pw_tb_3 (List.mem_of_getElem? (i := 118) rfl)
theorem pw_cd_22 : Cond.code (pw_y 22) (pw_cc 22) (pw_mxl 22) (pw_ret 22) ∈ lw_tbl := pw_tb_3 (List.mem_of_getElem? (i := 127) rfl)
theorem pw_cd_23 : Cond.code (pw_y 23) (pw_cc 23) (pw_mxl 23) (pw_ret 23) ∈ lw_tbl := pw_tb_1 (List.mem_of_getElem? (i := 161) rfl)
theorem pw_cd_24 : Cond.code (pw_y 24) (pw_cc 24) (pw_mxl 24) (pw_ret 24) ∈ lw_tbl := pw_tb_1 (List.mem_of_getElem? (i := 165) rfl)
theorem pw_cd_25 : Cond.code (pw_y 25) (pw_cc 25) (pw_mxl 25) (pw_ret 25) ∈ lw_tbl := pw_tb_0 (List.mem_of_getElem? (i := 105) rfl)
theorem pw_cd_26 : Cond.code (pw_y 26) (pw_cc 26) (pw_mxl 26) (pw_ret 26) ∈ lw_tbl := pw_tb_1 (List.mem_of_getElem? (i := 200) rfl)
theorem pw_cd_27 : Cond.code (pw_y 27) (pw_cc 27) (pw_mxl 27) (pw_ret 27) ∈ lw_tbl := pw_tb_2 (List.mem_of_getElem? (i := 214) rfl)
theorem pw_cd_28 : Cond.code (pw_y 28) (pw_cc 28) (pw_mxl 28) (pw_ret 28) ∈ lw_tbl := pw_tb_3 (List.mem_of_getElem? (i := 211) rfl)
theorem pw_cd_29 : Cond.code (pw_y 29) (pw_cc 29) (pw_mxl 29) (pw_ret 29) ∈ lw_tbl := pw_tb_2 (List.mem_of_getElem? (i := 218) rfl)
theorem pw_cd_30 : Cond.code (pw_y 30) (pw_cc 30) (pw_mxl 30) (pw_ret 30) ∈ lw_tbl := pw_tb_1 (List.mem_of_getElem? (i := 18) rfl)
theorem pw_cd_31 : Cond.code (pw_y 31) (pw_cc 31) (pw_mxl 31) (pw_ret 31) ∈ lw_tbl := pw_tb_1 (List.mem_of_getElem? (i := 185) rfl)
theorem pw_cd_32 : Cond.code (pw_y 32) (pw_cc 32) (pw_mxl 32) (pw_ret 32) ∈ lw_tbl := pw_tb_0 (List.mem_of_getElem? (i := 30) rfl)
theorem pw_cd_33 : Cond.code (pw_y 33) (pw_cc 33) (pw_mxl 33) (pw_ret 33) ∈ lw_tbl := pw_tb_1 (List.mem_of_getElem? (i := 170) rfl)
theorem pw_cd_34 : Cond.code (pw_y 34) (pw_cc 34) (pw_mxl 34) (pw_ret 34) ∈ lw_tbl := pw_tb_2 (List.mem_of_getElem? (i := 10) rfl)
theorem pw_cd_35 : Cond.code (pw_y 35) (pw_cc 35) (pw_mxl 35) (pw_ret 35) ∈ lw_tbl := pw_tb_1 (List.mem_of_getElem? (i := 209) rfl)
theorem pw_cd_36 : Cond.code (pw_y 36) (pw_cc 36) (pw_mxl 36) (pw_ret 36) ∈ lw_tbl := pw_tb_3 (List.mem_of_getElem? (i := 66) rfl)
theorem pw_cd_37 : Cond.code (pw_y 37) (pw_cc 37) (pw_mxl 37) (pw_ret 37) ∈ lw_tbl := pw_tb_3 (List.mem_of_getElem? (i := 33) rfl)
theorem pw_cd_38 : Cond.code (pw_y 38) (pw_cc 38) (pw_mxl 38) (pw_ret 38) ∈ lw_tbl := pw_tb_2 (List.mem_of_getElem? (i := 49) rfl)
theorem pw_cd_39 : Cond.code (pw_y 39) (pw_cc 39) (pw_mxl 39) (pw_ret 39) ∈ lw_tbl := pw_tb_2 (List.mem_of_getElem? (i := 132) rfl)
theorem pw_cd_40 : Cond.code (pw_y 40) (pw_cc 40) (pw_mxl 40) (pw_ret 40) ∈ lw_tbl := pw_tb_2 (List.mem_of_getElem? (i := 194) rfl)
theorem pw_cd_41 : Cond.code (pw_y 41) (pw_cc 41) (pw_mxl 41) (pw_ret 41) ∈ lw_tbl := pw_tb_2 (List.mem_of_getElem? (i := 198) rfl)
theorem pw_cd_42 : Cond.code (pw_y 42) (pw_cc 42) (pw_mxl 42) (pw_ret 42) ∈ lw_tbl := pw_tb_4 (List.mem_of_getElem? (i := 22) rfl)
theorem pw_cd_43 : Cond.code (pw_y 43) (pw_cc 43) (pw_mxl 43) (pw_ret 43) ∈ lw_tbl := pw_tb_4 (List.mem_of_getElem? (i := 18) rfl)
theorem pw_cd_44 : Cond.code (pw_y 44) (pw_cc 44) (pw_mxl 44) (pw_ret 44) ∈ lw_tbl := pw_tb_4 (List.mem_of_getElem? (i := 14) rfl)
theorem pw_cd_45 : Cond.code (pw_y 45) (pw_cc 45) (pw_mxl 45) (pw_ret 45) ∈ lw_tbl := pw_tb_4 (List.mem_of_getElem? (i := 36) rfl)
theorem pw_cd_46 : Cond.code (pw_y 46) (pw_cc 46) (pw_mxl 46) (pw_ret 46) ∈ lw_tbl := pw_tb_3 (List.mem_of_getElem? (i := 228) rfl)
theorem pw_cd_47 : Cond.code (pw_y 47) (pw_cc 47) (pw_mxl 47) (pw_ret 47) ∈ lw_tbl := pw_tb_3 (List.mem_of_getElem? (i := 232) rfl)
theorem pw_cd_48 : Cond.code (pw_y 48) (pw_cc 48) (pw_mxl 48) (pw_ret 48) ∈ lw_tbl := pw_tb_4 (List.mem_of_getElem? (i := 0) rfl)
theorem pw_cd_49 : Cond.code (pw_y 49) (pw_cc 49) (pw_mxl 49) (pw_ret 49) ∈ lw_tbl := pw_tb_4 (List.mem_of_getElem? (i := 199) rfl)
theorem pw_cd_50 : Cond.code (pw_y 50) (pw_cc 50) (pw_mxl 50) (pw_ret 50) ∈ lw_tbl := pw_tb_2 (List.mem_of_getElem? (i := 80) rfl)
theorem pw_cd_51 : Cond.code (pw_y 51) (pw_cc 51) (pw_mxl 51) (pw_ret 51) ∈ lw_tbl := pw_tb_2 (List.mem_of_getElem? (i := 84) rfl)
theorem pw_cd_52 : Cond.code (pw_y 52) (pw_cc 52) (pw_mxl 52) (pw_ret 52) ∈ lw_tbl := pw_tb_2 (List.mem_of_getElem? (i := 68) rfl)
theorem pw_cd_53 : Cond.code (pw_y 53) (pw_cc 53) (pw_mxl 53) (pw_ret 53) ∈ lw_tbl := pw_tb_2 (List.mem_of_getElem? (i := 64) rfl)
theorem pw_cd_54 : Cond.code (pw_y 54) (pw_cc 54) (pw_mxl 54) (pw_ret 54) ∈ lw_tbl := pw_tb_2 (List.mem_of_getElem? (i := 60) rfl)
theorem pw_cd_55 : Cond.code (pw_y 55) (pw_cc 55) (pw_mxl 55) (pw_ret 55) ∈ lw_tbl := pw_tb_2 (List.mem_of_getElem? (i := 36) rfl)
theorem pw_cd_56 : Cond.code (pw_y 56) (pw_cc 56) (pw_mxl 56) (pw_ret 56) ∈ lw_tbl := pw_tb_3 (List.mem_of_getElem? (i := 110) rfl)
theorem pw_cd_57 : Cond.code (pw_y 57) (pw_cc 57) (pw_mxl 57) (pw_ret 57) ∈ lw_tbl := pw_tb_2 (List.mem_of_getElem? (i := 40) rfl)
theorem pw_cd_58 : Cond.code (pw_y 58) (pw_cc 58) (pw_mxl 58) (pw_ret 58) ∈ lw_tbl := pw_tb_2 (List.mem_of_getElem? (i := 45) rfl)
theorem pw_cd_59 : Cond.code (pw_y 59) (pw_cc 59) (pw_mxl 59) (pw_ret 59) ∈ lw_tbl := pw_tb_2 (List.mem_of_getElem? (i := 76) rfl)
theorem pw_cd_60 : Cond.code (pw_y 60) (pw_cc 60) (pw_mxl 60) (pw_ret 60) ∈ lw_tbl := pw_tb_2 (List.mem_of_getElem? (i := 101) rfl)
theorem pw_cd_61 : Cond.code (pw_y 61) (pw_cc 61) (pw_mxl 61) (pw_ret 61) ∈ lw_tbl := pw_tb_2 (List.mem_of_getElem? (i := 105) rfl)
theorem pw_cd_62 : Cond.code (pw_y 62) (pw_cc 62) (pw_mxl 62) (pw_ret 62) ∈ lw_tbl := pw_tb_2 (List.mem_of_getElem? (i := 124) rfl)
theorem pw_cd_63 : Cond.code (pw_y 63) (pw_cc 63) (pw_mxl 63) (pw_ret 63) ∈ lw_tbl := pw_tb_2 (List.mem_of_getElem? (i := 128) rfl)
theorem pw_cd_64 : Cond.code (pw_y 64) (pw_cc 64) (pw_mxl 64) (pw_ret 64) ∈ lw_tbl := pw_tb_2 (List.mem_of_getElem? (i := 136) rfl)
theorem pw_cd_65 : Cond.code (pw_y 65) (pw_cc 65) (pw_mxl 65) (pw_ret 65) ∈ lw_tbl := pw_tb_2 (List.mem_of_getElem? (i := 144) rfl)
theorem pw_cd_66 : Cond.code (pw_y 66) (pw_cc 66) (pw_mxl 66) (pw_ret 66) ∈ lw_tbl := pw_tb_2 (List.mem_of_getElem? (i := 154) rfl)
theorem pw_cd_67 : Cond.code (pw_y 67) (pw_cc 67) (pw_mxl 67) (pw_ret 67) ∈ lw_tbl := pw_tb_2 (List.mem_of_getElem? (i := 173) rfl)
theorem pw_cd_68 : Cond.code (pw_y 68) (pw_cc 68) (pw_mxl 68) (pw_ret 68) ∈ lw_tbl := pw_tb_2 (List.mem_of_getElem? (i := 177) rfl)
theorem pw_cd_69 : Cond.code (pw_y 69) (pw_cc 69) (pw_mxl 69) (pw_ret 69) ∈ lw_tbl := pw_tb_2 (List.mem_of_getElem? (i := 185) rfl)
theorem pw_cd_70 : Cond.code (pw_y 70) (pw_cc 70) (pw_mxl 70) (pw_ret 70) ∈ lw_tbl := pw_tb_2 (List.mem_of_getElem? (i := 222) rfl)
theorem pw_cd_71 : Cond.code (pw_y 71) (pw_cc 71) (pw_mxl 71) (pw_ret 71) ∈ lw_tbl := pw_tb_3 (List.mem_of_getElem? (i := 12) rfl)
theorem pw_cd_72 : Cond.code (pw_y 72) (pw_cc 72) (pw_mxl 72) (pw_ret 72) ∈ lw_tbl := pw_tb_3 (List.mem_of_getElem? (i := 16) rfl)
theorem pw_cd_73 : Cond.code (pw_y 73) (pw_cc 73) (pw_mxl 73) (pw_ret 73) ∈ lw_tbl := pw_tb_3 (List.mem_of_getElem? (i := 149) rfl)
theorem pw_cd_74 : Cond.code (pw_y 74) (pw_cc 74) (pw_mxl 74) (pw_ret 74) ∈ lw_tbl := pw_tb_3 (List.mem_of_getElem? (i := 172) rfl)
theorem pw_cd_75 : Cond.code (pw_y 75) (pw_cc 75) (pw_mxl 75) (pw_ret 75) ∈ lw_tbl := pw_tb_0 (List.mem_of_getElem? (i := 38) rfl)
theorem pw_cd_76 : Cond.code (pw_y 76) (pw_cc 76) (pw_mxl 76) (pw_ret 76) ∈ lw_tbl := pw_tb_1 (List.mem_of_getElem? (i := 190) rfl)
theorem pw_cd_77 : Cond.code (pw_y 77) (pw_cc 77) (pw_mxl 77) (pw_ret 77) ∈ lw_tbl := pw_tb_3 (List.mem_of_getElem? (i := 46) rfl)
theorem pw_cd_78 : Cond.code (pw_y 78) (pw_cc 78) (pw_mxl 78) (pw_ret 78) ∈ lw_tbl := pw_tb_3 (List.mem_of_getElem? (i := 50) rfl)
theorem pw_cd_79 : Cond.code (pw_y 79) (pw_cc 79) (pw_mxl 79) (pw_ret 79) ∈ lw_tbl := pw_tb_2 (List.mem_of_getElem? (i := 93) rfl)
theorem pw_cd_80 : Cond.code (pw_y 80) (pw_cc 80) (pw_mxl 80) (pw_ret 80) ∈ lw_tbl := pw_tb_3 (List.mem_of_getElem? (i := 74) rfl)
theorem pw_cd_81 : Cond.code (pw_y 81) (pw_cc 81) (pw_mxl 81) (pw_ret 81) ∈ lw_tbl := pw_tb_3 (List.mem_of_getElem? (i := 78) rfl)
theorem pw_cd_82 : Cond.code (pw_y 82) (pw_cc 82) (pw_mxl 82) (pw_ret 82) ∈ lw_tbl := pw_tb_3 (List.mem_of_getElem? (i := 106) rfl)
theorem pw_cd_83 : Cond.code (pw_y 83) (pw_cc 83) (pw_mxl 83) (pw_ret 83) ∈ lw_tbl := pw_tb_3 (List.mem_of_getElem? (i := 86) rfl)
theorem pw_cd_84 : Cond.code (pw_y 84) (pw_cc 84) (pw_mxl 84) (pw_ret 84) ∈ lw_tbl := pw_tb_3 (List.mem_of_getElem? (i := 90) rfl)
theorem pw_cd_85 : Cond.code (pw_y 85) (pw_cc 85) (pw_mxl 85) (pw_ret 85) ∈ lw_tbl := pw_tb_0 (List.mem_of_getElem? (i := 166) rfl)
theorem pw_cd_86 : Cond.code (pw_y 86) (pw_cc 86) (pw_mxl 86) (pw_ret 86) ∈ lw_tbl := pw_tb_2 (List.mem_of_getElem? (i := 1) rfl)
theorem pw_cd_87 : Cond.code (pw_y 87) (pw_cc 87) (pw_mxl 87) (pw_ret 87) ∈ lw_tbl := pw_tb_1 (List.mem_of_getElem? (i := 178) rfl)
theorem pw_cd_88 : Cond.code (pw_y 88) (pw_cc 88) (pw_mxl 88) (pw_ret 88) ∈ lw_tbl := pw_tb_2 (List.mem_of_getElem? (i := 231) rfl)
theorem pw_cd_89 : Cond.code (pw_y 89) (pw_cc 89) (pw_mxl 89) (pw_ret 89) ∈ lw_tbl := pw_tb_2 (List.mem_of_getElem? (i := 235) rfl)
theorem pw_cd_90 : Cond.code (pw_y 90) (pw_cc 90) (pw_mxl 90) (pw_ret 90) ∈ lw_tbl := pw_tb_2 (List.mem_of_getElem? (i := 239) rfl)
theorem pw_cd_91 : Cond.code (pw_y 91) (pw_cc 91) (pw_mxl 91) (pw_ret 91) ∈ lw_tbl := pw_tb_3 (List.mem_of_getElem? (i := 3) rfl)
theorem pw_cd_92 : Cond.code (pw_y 92) (pw_cc 92) (pw_mxl 92) (pw_ret 92) ∈ lw_tbl := pw_tb_3 (List.mem_of_getElem? (i := 7) rfl)
theorem pw_cd_93 : Cond.code (pw_y 93) (pw_cc 93) (pw_mxl 93) (pw_ret 93) ∈ lw_tbl := pw_tb_0 (List.mem_of_getElem? (i := 99) rfl)
theorem pw_cd_94 : Cond.code (pw_y 94) (pw_cc 94) (pw_mxl 94) (pw_ret 94) ∈ lw_tbl := pw_tb_1 (List.mem_of_getElem? (i := 195) rfl)
theorem pw_cd_95 : Cond.code (pw_y 95) (pw_cc 95) (pw_mxl 95) (pw_ret 95) ∈ lw_tbl := pw_tb_2 (List.mem_of_getElem? (i := 181) rfl)
theorem pw_cd_96 : Cond.code (pw_y 96) (pw_cc 96) (pw_mxl 96) (pw_ret 96) ∈ lw_tbl := pw_tb_2 (List.mem_of_getElem? (i := 189) rfl)
theorem pw_cd_97 : Cond.code (pw_y 97) (pw_cc 97) (pw_mxl 97) (pw_ret 97) ∈ lw_tbl := pw_tb_2 (List.mem_of_getElem? (i := 202) rfl)
theorem pw_cd_98 : Cond.code (pw_y 98) (pw_cc 98) (pw_mxl 98) (pw_ret 98) ∈ lw_tbl := pw_tb_2 (List.mem_of_getElem? (i := 206) rfl)
theorem pw_cd_99 : Cond.code (pw_y 99) (pw_cc 99) (pw_mxl 99) (pw_ret 99) ∈ lw_tbl := pw_tb_2 (List.mem_of_getElem? (i := 210) rfl)
theorem pw_cd_100 : Cond.code (pw_y 100) (pw_cc 100) (pw_mxl 100) (pw_ret 100) ∈ lw_tbl := pw_tb_0 (List.mem_of_getElem? (i := 22) rfl)
theorem pw_cd_101 : Cond.code (pw_y 101) (pw_cc 101) (pw_mxl 101) (pw_ret 101) ∈ lw_tbl := pw_tb_1 (List.mem_of_getElem? (i := 150) rfl)
theorem pw_cd_102 : Cond.code (pw_y 102) (pw_cc 102) (pw_mxl 102) (pw_ret 102) ∈ lw_tbl := pw_tb_2 (List.mem_of_getElem? (i := 6) rfl)
theorem pw_cd_103 : Cond.code (pw_y 103) (pw_cc 103) (pw_mxl 103) (pw_ret 103) ∈ lw_tbl := pw_tb_2 (List.mem_of_getElem? (i := 17) rfl)
theorem pw_cd_104 : Cond.code (pw_y 104) (pw_cc 104) (pw_mxl 104) (pw_ret 104) ∈ lw_tbl := pw_tb_2 (List.mem_of_getElem? (i := 21) rfl)
theorem pw_cd_105 : Cond.code (pw_y 105) (pw_cc 105) (pw_mxl 105) (pw_ret 105) ∈ lw_tbl := pw_tb_2 (List.mem_of_getElem? (i := 32) rfl)
theorem pw_cd_106 : Cond.code (pw_y 106) (pw_cc 106) (pw_mxl 106) (pw_ret 106) ∈ lw_tbl := pw_tb_3 (List.mem_of_getElem? (i := 21) rfl)
theorem pw_cd_107 : Cond.code (pw_y 107) (pw_cc 107) (pw_mxl 107) (pw_ret 107) ∈ lw_tbl := pw_tb_3 (List.mem_of_getElem? (i := 25) rfl)
theorem pw_cd_108 : Cond.code (pw_y 108) (pw_cc 108) (pw_mxl 108) (pw_ret 108) ∈ lw_tbl := pw_tb_3 (List.mem_of_getElem? (i := 29) rfl)
theorem pw_cd_109 : Cond.code (pw_y 109) (pw_cc 109) (pw_mxl 109) (pw_ret 109) ∈ lw_tbl := pw_tb_3 (List.mem_of_getElem? (i := 37) rfl)
theorem pw_cd_110 : Cond.code (pw_y 110) (pw_cc 110) (pw_mxl 110) (pw_ret 110) ∈ lw_tbl := pw_tb_3 (List.mem_of_getElem? (i := 41) rfl)
theorem pw_cd_111 : Cond.code (pw_y 111) (pw_cc 111) (pw_mxl 111) (pw_ret 111) ∈ lw_tbl := pw_tb_3 (List.mem_of_getElem? (i := 54) rfl)
theorem pw_cd_112 : Cond.code (pw_y 112) (pw_cc 112) (pw_mxl 112) (pw_ret 112) ∈ lw_tbl := pw_tb_3 (List.mem_of_getElem? (i := 58) rfl)
theorem pw_cd_113 : Cond.code (pw_y 113) (pw_cc 113) (pw_mxl 113) (pw_ret 113) ∈ lw_tbl := pw_tb_3 (List.mem_of_getElem? (i := 62) rfl)
theorem pw_cd_114 : Cond.code (pw_y 114) (pw_cc 114) (pw_mxl 114) (pw_ret 114) ∈ lw_tbl := pw_tb_3 (List.mem_of_getElem? (i := 70) rfl)
theorem pw_cd_115 : Cond.code (pw_y 115) (pw_cc 115) (pw_mxl 115) (pw_ret 115) ∈ lw_tbl := pw_tb_3 (List.mem_of_getElem? (i := 82) rfl)
theorem pw_cd_116 : Cond.code (pw_y 116) (pw_cc 116) (pw_mxl 116) (pw_ret 116) ∈ lw_tbl := pw_tb_3 (List.mem_of_getElem? (i := 94) rfl)
theorem pw_cd_117 : Cond.code (pw_y 117) (pw_cc 117) (pw_mxl 117) (pw_ret 117) ∈ lw_tbl := pw_tb_3 (List.mem_of_getElem? (i := 98) rfl)
theorem pw_cd_118 : Cond.code (pw_y 118) (pw_cc 118) (pw_mxl 118) (pw_ret 118) ∈ lw_tbl := pw_tb_3 (List.mem_of_getElem? (i := 102) rfl)
theorem pw_cd_119 : Cond.code (pw_y 119) (pw_cc 119) (pw_mxl 119) (pw_ret 119) ∈ lw_tbl := pw_tb_3 (List.mem_of_getElem? (i := 114) rfl)
theorem pw_cd_120 : Cond.code (pw_y 120) (pw_cc 120) (pw_mxl 120) (pw_ret 120) ∈ lw_tbl := pw_tb_3 (List.mem_of_getElem? (i := 122) rfl)
theorem pw_cd_121 : Cond.code (pw_y 121) (pw_cc 121) (pw_mxl 121) (pw_ret 121) ∈ lw_tbl := pw_tb_3 (List.mem_of_getElem? (i := 131) rfl)
theorem pw_cd_122 : Cond.code (pw_y 122) (pw_cc 122) (pw_mxl 122) (pw_ret 122) ∈ lw_tbl := pw_tb_3 (List.mem_of_getElem? (i := 135) rfl)
theorem pw_cd_123 : Cond.code (pw_y 123) (pw_cc 123) (pw_mxl 123) (pw_ret 123) ∈ lw_tbl := pw_tb_3 (List.mem_of_getElem? (i := 140) rfl)
theorem pw_cd_124 : Cond.code (pw_y 124) (pw_cc 124) (pw_mxl 124) (pw_ret 124) ∈ lw_tbl := pw_tb_3 (List.mem_of_getElem? (i := 145) rfl)
theorem pw_cd_125 : Cond.code (pw_y 125) (pw_cc 125) (pw_mxl 125) (pw_ret 125) ∈ lw_tbl := pw_tb_3 (List.mem_of_getElem? (i := 163) rfl)
theorem pw_cd_126 : Cond.code (pw_y 126) (pw_cc 126) (pw_mxl 126) (pw_ret 126) ∈ lw_tbl := pw_tb_3 (List.mem_of_getElem? (i := 167) rfl)
theorem pw_cd_127 : Cond.code (pw_y 127) (pw_cc 127) (pw_mxl 127) (pw_ret 127) ∈ lw_tbl := pw_tb_3 (List.mem_of_getElem? (i := 176) rfl)
theorem pw_cd_128 : Cond.code (pw_y 128) (pw_cc 128) (pw_mxl 128) (pw_ret 128) ∈ lw_tbl := pw_tb_3 (List.mem_of_getElem? (i := 180) rfl)
theorem pw_cd_129 : Cond.code (pw_y 129) (pw_cc 129) (pw_mxl 129) (pw_ret 129) ∈ lw_tbl := pw_tb_3 (List.mem_of_getElem? (i := 184) rfl)
theorem pw_cd_130 : Cond.code (pw_y 130) (pw_cc 130) (pw_mxl 130) (pw_ret 130) ∈ lw_tbl := pw_tb_3 (List.mem_of_getElem? (i := 188) rfl)
theorem pw_cd_131 : Cond.code (pw_y 131) (pw_cc 131) (pw_mxl 131) (pw_ret 131) ∈ lw_tbl := pw_tb_3 (List.mem_of_getElem? (i := 192) rfl)
theorem pw_cd_132 : Cond.code (pw_y 132) (pw_cc 132) (pw_mxl 132) (pw_ret 132) ∈ lw_tbl := pw_tb_3 (List.mem_of_getElem? (i := 201) rfl)
theorem pw_cd_133 : Cond.code (pw_y 133) (pw_cc 133) (pw_mxl 133) (pw_ret 133) ∈ lw_tbl := pw_tb_3 (List.mem_of_getElem? (i := 207) rfl)
theorem pw_cd_134 : Cond.code (pw_y 134) (pw_cc 134) (pw_mxl 134) (pw_ret 134) ∈ lw_tbl := pw_tb_3 (List.mem_of_getElem? (i := 216) rfl)
theorem pw_cd_135 : Cond.code (pw_y 135) (pw_cc 135) (pw_mxl 135) (pw_ret 135) ∈ lw_tbl := pw_tb_3 (List.mem_of_getElem? (i := 220) rfl)
theorem pw_cd_136 : Cond.code (pw_y 136) (pw_cc 136) (pw_mxl 136) (pw_ret 136) ∈ lw_tbl := pw_tb_3 (List.mem_of_getElem? (i := 224) rfl)
theorem pw_cd_137 : Cond.code (pw_y 137) (pw_cc 137) (pw_mxl 137) (pw_ret 137) ∈ lw_tbl := pw_tb_3 (List.mem_of_getElem? (i := 236) rfl)
theorem pw_cd_138 : Cond.code (pw_y 138) (pw_cc 138) (pw_mxl 138) (pw_ret 138) ∈ lw_tbl := pw_tb_4 (List.mem_of_getElem? (i := 5) rfl)
theorem pw_cd_139 : Cond.code (pw_y 139) (pw_cc 139) (pw_mxl 139) (pw_ret 139) ∈ lw_tbl := pw_tb_4 (List.mem_of_getElem? (i := 10) rfl)
theorem pw_cd_140 : Cond.code (pw_y 140) (pw_cc 140) (pw_mxl 140) (pw_ret 140) ∈ lw_tbl := pw_tb_4 (List.mem_of_getElem? (i := 27) rfl)
theorem pw_cd_141 : Cond.code (pw_y 141) (pw_cc 141) (pw_mxl 141) (pw_ret 141) ∈ lw_tbl := pw_tb_4 (List.mem_of_getElem? (i := 31) rfl)
theorem pw_cd_142 : Cond.code (pw_y 142) (pw_cc 142) (pw_mxl 142) (pw_ret 142) ∈ lw_tbl := pw_tb_4 (List.mem_of_getElem? (i := 46) rfl)
theorem pw_cd_143 : Cond.code (pw_y 143) (pw_cc 143) (pw_mxl 143) (pw_ret 143) ∈ lw_tbl := pw_tb_4 (List.mem_of_getElem? (i := 66) rfl)
theorem pw_cd_144 : Cond.code (pw_y 144) (pw_cc 144) (pw_mxl 144) (pw_ret 144) ∈ lw_tbl := pw_tb_4 (List.mem_of_getElem? (i := 71) rfl)
theorem pw_cd_145 : Cond.code (pw_y 145) (pw_cc 145) (pw_mxl 145) (pw_ret 145) ∈ lw_tbl := pw_tb_4 (List.mem_of_getElem? (i := 76) rfl)
theorem pw_cd_146 : Cond.code (pw_y 146) (pw_cc 146) (pw_mxl 146) (pw_ret 146) ∈ lw_tbl := pw_tb_4 (List.mem_of_getElem? (i := 80) rfl)
theorem pw_cd_147 : Cond.code (pw_y 147) (pw_cc 147) (pw_mxl 147) (pw_ret 147) ∈ lw_tbl := pw_tb_4 (List.mem_of_getElem? (i := 84) rfl)
theorem pw_cd_148 : Cond.code (pw_y 148) (pw_cc 148) (pw_mxl 148) (pw_ret 148) ∈ lw_tbl := pw_tb_4 (List.mem_of_getElem? (i := 89) rfl)
theorem pw_cd_149 : Cond.code (pw_y 149) (pw_cc 149) (pw_mxl 149) (pw_ret 149) ∈ lw_tbl := pw_tb_4 (List.mem_of_getElem? (i := 94) rfl)
theorem pw_cd_150 : Cond.code (pw_y 150) (pw_cc 150) (pw_mxl 150) (pw_ret 150) ∈ lw_tbl := pw_tb_4 (List.mem_of_getElem? (i := 99) rfl)
theorem pw_cd_151 : Cond.code (pw_y 151) (pw_cc 151) (pw_mxl 151) (pw_ret 151) ∈ lw_tbl := pw_tb_4 (List.mem_of_getElem? (i := 103) rfl)
theorem pw_cd_152 : Cond.code (pw_y 152) (pw_cc 152) (pw_mxl 152) (pw_ret 152) ∈ lw_tbl := pw_tb_4 (List.mem_of_getElem? (i := 107) rfl)
theorem pw_cd_153 : Cond.code (pw_y 153) (pw_cc 153) (pw_mxl 153) (pw_ret 153) ∈ lw_tbl := pw_tb_4 (List.mem_of_getElem? (i := 111) rfl)
theorem pw_cd_154 : Cond.code (pw_y 154) (pw_cc 154) (pw_mxl 154) (pw_ret 154) ∈ lw_tbl := pw_tb_4 (List.mem_of_getElem? (i := 115) rfl)
theorem pw_cd_155 : Cond.code (pw_y 155) (pw_cc 155) (pw_mxl 155) (pw_ret 155) ∈ lw_tbl := pw_tb_4 (List.mem_of_getElem? (i := 119) rfl)
theorem pw_cd_156 : Cond.code (pw_y 156) (pw_cc 156) (pw_mxl 156) (pw_ret 156) ∈ lw_tbl := pw_tb_4 (List.mem_of_getElem? (i := 123) rfl)
theorem pw_cd_157 : Cond.code (pw_y 157) (pw_cc 157) (pw_mxl 157) (pw_ret 157) ∈ lw_tbl := pw_tb_4 (List.mem_of_getElem? (i := 134) rfl)
theorem pw_cd_158 : Cond.code (pw_y 158) (pw_cc 158) (pw_mxl 158) (pw_ret 158) ∈ lw_tbl := pw_tb_4 (List.mem_of_getElem? (i := 143) rfl)
theorem pw_cd_159 : Cond.code (pw_y 159) (pw_cc 159) (pw_mxl 159) (pw_ret 159) ∈ lw_tbl := pw_tb_4 (List.mem_of_getElem? (i := 147) rfl)
theorem pw_cd_160 : Cond.code (pw_y 160) (pw_cc 160) (pw_mxl 160) (pw_ret 160) ∈ lw_tbl := pw_tb_4 (List.mem_of_getElem? (i := 151) rfl)
theorem pw_cd_161 : Cond.code (pw_y 161) (pw_cc 161) (pw_mxl 161) (pw_ret 161) ∈ lw_tbl := pw_tb_4 (List.mem_of_getElem? (i := 155) rfl)
theorem pw_cd_162 : Cond.code (pw_y 162) (pw_cc 162) (pw_mxl 162) (pw_ret 162) ∈ lw_tbl := pw_tb_4 (List.mem_of_getElem? (i := 159) rfl)
theorem pw_cd_163 : Cond.code (pw_y 163) (pw_cc 163) (pw_mxl 163) (pw_ret 163) ∈ lw_tbl := pw_tb_4 (List.mem_of_getElem? (i := 164) rfl)
theorem pw_cd_164 : Cond.code (pw_y 164) (pw_cc 164) (pw_mxl 164) (pw_ret 164) ∈ lw_tbl := pw_tb_4 (List.mem_of_getElem? (i := 175) rfl)
theorem pw_cd_165 : Cond.code (pw_y 165) (pw_cc 165) (pw_mxl 165) (pw_ret 165) ∈ lw_tbl := pw_tb_4 (List.mem_of_getElem? (i := 183) rfl)
theorem pw_cd_166 : Cond.code (pw_y 166) (pw_cc 166) (pw_mxl 166) (pw_ret 166) ∈ lw_tbl := pw_tb_4 (List.mem_of_getElem? (i := 191) rfl)
theorem pw_cd_167 : Cond.code (pw_y 167) (pw_cc 167) (pw_mxl 167) (pw_ret 167) ∈ lw_tbl := pw_tb_4 (List.mem_of_getElem? (i := 195) rfl)
theorem pw_cd_168 : Cond.code (pw_y 168) (pw_cc 168) (pw_mxl 168) (pw_ret 168) ∈ lw_tbl := pw_tb_4 (List.mem_of_getElem? (i := 203) rfl)
theorem pw_cd_169 : Cond.code (pw_y 169) (pw_cc 169) (pw_mxl 169) (pw_ret 169) ∈ lw_tbl := pw_tb_4 (List.mem_of_getElem? (i := 187) rfl)
theorem pw_cd_170 : Cond.code (pw_y 170) (pw_cc 170) (pw_mxl 170) (pw_ret 170) ∈ lw_tbl := pw_tb_4 (List.mem_of_getElem? (i := 179) rfl)
theorem pw_cd_171 : Cond.code (pw_y 171) (pw_cc 171) (pw_mxl 171) (pw_ret 171) ∈ lw_tbl := pw_tb_4 (List.mem_of_getElem? (i := 50) rfl)
theorem pw_cd_172 : Cond.code (pw_y 172) (pw_cc 172) (pw_mxl 172) (pw_ret 172) ∈ lw_tbl := pw_tb_4 (List.mem_of_getElem? (i := 58) rfl)
theorem pw_cd_173 : Cond.code (pw_y 173) (pw_cc 173) (pw_mxl 173) (pw_ret 173) ∈ lw_tbl := pw_tb_1 (List.mem_of_getElem? (i := 153) rfl)
theorem pw_cd_174 : Cond.code (pw_y 174) (pw_cc 174) (pw_mxl 174) (pw_ret 174) ∈ lw_tbl := pw_tb_2 (List.mem_of_getElem? (i := 24) rfl)
theorem pw_cd_175 : Cond.code (pw_y 175) (pw_cc 175) (pw_mxl 175) (pw_ret 175) ∈ lw_tbl := pw_tb_1 (List.mem_of_getElem? (i := 227) rfl)
theorem pw_cd_176 : Cond.code (pw_y 176) (pw_cc 176) (pw_mxl 176) (pw_ret 176) ∈ lw_tbl := pw_tb_1 (List.mem_of_getElem? (i := 216) rfl)
theorem pw_cd_177 : Cond.code (pw_y 177) (pw_cc 177) (pw_mxl 177) (pw_ret 177) ∈ lw_tbl := pw_tb_1 (List.mem_of_getElem? (i := 230) rfl)
theorem pw_cd_178 : Cond.code (pw_y 178) (pw_cc 178) (pw_mxl 178) (pw_ret 178) ∈ lw_tbl := pw_tb_1 (List.mem_of_getElem? (i := 234) rfl)
theorem pw_cd_179 : Cond.code (pw_y 179) (pw_cc 179) (pw_mxl 179) (pw_ret 179) ∈ lw_tbl := pw_tb_2 (List.mem_of_getElem? (i := 166) rfl)
theorem pw_cd_180 : Cond.code (pw_y 180) (pw_cc 180) (pw_mxl 180) (pw_ret 180) ∈ lw_tbl := pw_tb_4 (List.mem_of_getElem? (i := 167) rfl)
theorem pw_cd_181 : Cond.code (pw_y 181) (pw_cc 181) (pw_mxl 181) (pw_ret 181) ∈ lw_tbl := pw_tb_4 (List.mem_of_getElem? (i := 128) rfl)
theorem pw_cd_182 : Cond.code (pw_y 182) (pw_cc 182) (pw_mxl 182) (pw_ret 182) ∈ lw_tbl := pw_tb_4 (List.mem_of_getElem? (i := 138) rfl)
theorem pw_cd_183 : Cond.code (pw_y 183) (pw_cc 183) (pw_mxl 183) (pw_ret 183) ∈ lw_tbl := pw_tb_4 (List.mem_of_getElem? (i := 208) rfl)
theorem pw_cd_184 : Cond.code (pw_y 184) (pw_cc 184) (pw_mxl 184) (pw_ret 184) ∈ lw_tbl := pw_tb_4 (List.mem_of_getElem? (i := 219) rfl)
theorem pw_cd_185 : Cond.code (pw_y 185) (pw_cc 185) (pw_mxl 185) (pw_ret 185) ∈ lw_tbl := pw_tb_5 (List.mem_of_getElem? (i := 24) rfl)
theorem pw_cd_186 : Cond.code (pw_y 186) (pw_cc 186) (pw_mxl 186) (pw_ret 186) ∈ lw_tbl := pw_tb_5 (List.mem_of_getElem? (i := 146) rfl)
theorem pw_cd_187 : Cond.code (pw_y 187) (pw_cc 187) (pw_mxl 187) (pw_ret 187) ∈ lw_tbl := pw_tb_5 (List.mem_of_getElem? (i := 143) rfl)
theorem pw_cd_188 : Cond.code (pw_y 188) (pw_cc 188) (pw_mxl 188) (pw_ret 188) ∈ lw_tbl := pw_tb_5 (List.mem_of_getElem? (i := 169) rfl)
theorem pw_cd_189 : Cond.code (pw_y 189) (pw_cc 189) (pw_mxl 189) (pw_ret 189) ∈ lw_tbl := pw_tb_5 (List.mem_of_getElem? (i := 128) rfl)
theorem pw_cd_190 : Cond.code (pw_y 190) (pw_cc 190) (pw_mxl 190) (pw_ret 190) ∈ lw_tbl := pw_tb_5 (List.mem_of_getElem? (i := 125) rfl)
theorem pw_cd_191 : Cond.code (pw_y 191) (pw_cc 191) (pw_mxl 191) (pw_ret 191) ∈ lw_tbl := pw_tb_4 (List.mem_of_getElem? (i := 216) rfl)
theorem pw_cd_192 : Cond.code (pw_y 192) (pw_cc 192) (pw_mxl 192) (pw_ret 192) ∈ lw_tbl := pw_tb_5 (List.mem_of_getElem? (i := 66) rfl)
theorem pw_cd_193 : Cond.code (pw_y 193) (pw_cc 193) (pw_mxl 193) (pw_ret 193) ∈ lw_tbl := pw_tb_5 (List.mem_of_getElem? (i := 41) rfl)
theorem pw_cd_194 : Cond.code (pw_y 194) (pw_cc 194) (pw_mxl 194) (pw_ret 194) ∈ lw_tbl := pw_tb_5 (List.mem_of_getElem? (i := 32) rfl)
theorem pw_cd_195 : Cond.code (pw_y 195) (pw_cc 195) (pw_mxl 195) (pw_ret 195) ∈ lw_tbl := pw_tb_5 (List.mem_of_getElem? (i := 58) rfl)
theorem pw_cd_196 : Cond.code (pw_y 196) (pw_cc 196) (pw_mxl 196) (pw_ret 196) ∈ lw_tbl := pw_tb_5 (List.mem_of_getElem? (i := 53) rfl)
theorem pw_cd_197 : Cond.code (pw_y 197) (pw_cc 197) (pw_mxl 197) (pw_ret 197) ∈ lw_tbl := pw_tb_5 (List.mem_of_getElem? (i := 49) rfl)
theorem pw_cd_198 : Cond.code (pw_y 198) (pw_cc 198) (pw_mxl 198) (pw_ret 198) ∈ lw_tbl := pw_tb_5 (List.mem_of_getElem? (i := 110) rfl)
theorem pw_cd_199 : Cond.code (pw_y 199) (pw_cc 199) (pw_mxl 199) (pw_ret 199) ∈ lw_tbl := pw_tb_5 (List.mem_of_getElem? (i := 36) rfl)
theorem pw_cd_200 : Cond.code (pw_y 200) (pw_cc 200) (pw_mxl 200) (pw_ret 200) ∈ lw_tbl := pw_tb_5 (List.mem_of_getElem? (i := 106) rfl)
theorem pw_cd_201 : Cond.code (pw_y 201) (pw_cc 201) (pw_mxl 201) (pw_ret 201) ∈ lw_tbl := pw_tb_5 (List.mem_of_getElem? (i := 201) rfl)
theorem pw_cd_202 : Cond.code (pw_y 202) (pw_cc 202) (pw_mxl 202) (pw_ret 202) ∈ lw_tbl := pw_tb_5 (List.mem_of_getElem? (i := 102) rfl)
theorem pw_cd_203 : Cond.code (pw_y 203) (pw_cc 203) (pw_mxl 203) (pw_ret 203) ∈ lw_tbl := pw_tb_5 (List.mem_of_getElem? (i := 213) rfl)
theorem pw_cd_204 : Cond.code (pw_y 204) (pw_cc 204) (pw_mxl 204) (pw_ret 204) ∈ lw_tbl := pw_tb_5 (List.mem_of_getElem? (i := 185) rfl)
theorem pw_cd_205 : Cond.code (pw_y 205) (pw_cc 205) (pw_mxl 205) (pw_ret 205) ∈ lw_tbl := pw_tb_5 (List.mem_of_getElem? (i := 233) rfl)
theorem pw_cd_206 : Cond.code (pw_y 206) (pw_cc 206) (pw_mxl 206) (pw_ret 206) ∈ lw_tbl := pw_tb_5 (List.mem_of_getElem? (i := 122) rfl)
theorem pw_cd_207 : Cond.code (pw_y 207) (pw_cc 207) (pw_mxl 207) (pw_ret 207) ∈ lw_tbl := pw_tb_5 (List.mem_of_getElem? (i := 118) rfl)
theorem pw_cd_208 : Cond.code (pw_y 208) (pw_cc 208) (pw_mxl 208) (pw_ret 208) ∈ lw_tbl := pw_tb_5 (List.mem_of_getElem? (i := 114) rfl)
theorem pw_cd_209 : Cond.code (pw_y 209) (pw_cc 209) (pw_mxl 209) (pw_ret 209) ∈ lw_tbl := pw_tb_5 (List.mem_of_getElem? (i := 140) rfl)
theorem pw_cd_210 : Cond.code (pw_y 210) (pw_cc 210) (pw_mxl 210) (pw_ret 210) ∈ lw_tbl := pw_tb_5 (List.mem_of_getElem? (i := 136) rfl)
theorem pw_cd_211 : Cond.code (pw_y 211) (pw_cc 211) (pw_mxl 211) (pw_ret 211) ∈ lw_tbl := pw_tb_5 (List.mem_of_getElem? (i := 98) rfl)
theorem pw_cd_212 : Cond.code (pw_y 212) (pw_cc 212) (pw_mxl 212) (pw_ret 212) ∈ lw_tbl := pw_tb_5 (List.mem_of_getElem? (i := 150) rfl)
theorem pw_cd_213 : Cond.code (pw_y 213) (pw_cc 213) (pw_mxl 213) (pw_ret 213) ∈ lw_tbl := pw_tb_5 (List.mem_of_getElem? (i := 132) rfl)
theorem pw_cd_214 : Cond.code (pw_y 214) (pw_cc 214) (pw_mxl 214) (pw_ret 214) ∈ lw_tbl := pw_tb_5 (List.mem_of_getElem? (i := 173) rfl)
theorem pw_cd_215 : Cond.code (pw_y 215) (pw_cc 215) (pw_mxl 215) (pw_ret 215) ∈ lw_tbl := pw_tb_5 (List.mem_of_getElem? (i := 158) rfl)
theorem pw_cd_216 : Cond.code (pw_y 216) (pw_cc 216) (pw_mxl 216) (pw_ret 216) ∈ lw_tbl := pw_tb_5 (List.mem_of_getElem? (i := 162) rfl)
theorem pw_cd_217 : Cond.code (pw_y 217) (pw_cc 217) (pw_mxl 217) (pw_ret 217) ∈ lw_tbl := pw_tb_5 (List.mem_of_getElem? (i := 166) rfl)
theorem pw_cd_218 : Cond.code (pw_y 218) (pw_cc 218) (pw_mxl 218) (pw_ret 218) ∈ lw_tbl := pw_tb_5 (List.mem_of_getElem? (i := 154) rfl)
theorem pw_cd_219 : Cond.code (pw_y 219) (pw_cc 219) (pw_mxl 219) (pw_ret 219) ∈ lw_tbl := pw_tb_5 (List.mem_of_getElem? (i := 189) rfl)
theorem pw_cd_220 : Cond.code (pw_y 220) (pw_cc 220) (pw_mxl 220) (pw_ret 220) ∈ lw_tbl := pw_tb_5 (List.mem_of_getElem? (i := 181) rfl)
theorem pw_cd_221 : Cond.code (pw_y 221) (pw_cc 221) (pw_mxl 221) (pw_ret 221) ∈ lw_tbl := pw_tb_5 (List.mem_of_getElem? (i := 193) rfl)
theorem pw_cd_222 : Cond.code (pw_y 222) (pw_cc 222) (pw_mxl 222) (pw_ret 222) ∈ lw_tbl := pw_tb_5 (List.mem_of_getElem? (i := 177) rfl)
theorem pw_cd_223 : Cond.code (pw_y 223) (pw_cc 223) (pw_mxl 223) (pw_ret 223) ∈ lw_tbl := pw_tb_5 (List.mem_of_getElem? (i := 209) rfl)
theorem pw_cd_224 : Cond.code (pw_y 224) (pw_cc 224) (pw_mxl 224) (pw_ret 224) ∈ lw_tbl := pw_tb_5 (List.mem_of_getElem? (i := 205) rfl)
theorem pw_cd_225 : Cond.code (pw_y 225) (pw_cc 225) (pw_mxl 225) (pw_ret 225) ∈ lw_tbl := pw_tb_5 (List.mem_of_getElem? (i := 197) rfl)
theorem pw_cd_226 : Cond.code (pw_y 226) (pw_cc 226) (pw_mxl 226) (pw_ret 226) ∈ lw_tbl := pw_tb_5 (List.mem_of_getElem? (i := 217) rfl)
theorem pw_cd_227 : Cond.code (pw_y 227) (pw_cc 227) (pw_mxl 227) (pw_ret 227) ∈ lw_tbl := pw_tb_5 (List.mem_of_getElem? (i := 225) rfl)
theorem pw_cd_228 : Cond.code (pw_y 228) (pw_cc 228) (pw_mxl 228) (pw_ret 228) ∈ lw_tbl := pw_tb_5 (List.mem_of_getElem? (i := 229) rfl)
theorem pw_cd_229 : Cond.code (pw_y 229) (pw_cc 229) (pw_mxl 229) (pw_ret 229) ∈ lw_tbl := pw_tb_5 (List.mem_of_getElem? (i := 237) rfl)
theorem pw_cd_230 : Cond.code (pw_y 230) (pw_cc 230) (pw_mxl 230) (pw_ret 230) ∈ lw_tbl := pw_tb_5 (List.mem_of_getElem? (i := 221) rfl)
theorem pw_cd_231 : Cond.code (pw_y 231) (pw_cc 231) (pw_mxl 231) (pw_ret 231) ∈ lw_tbl := pw_tb_6 (List.mem_of_getElem? (i := 9) rfl)
theorem pw_cd_232 : Cond.code (pw_y 232) (pw_cc 232) (pw_mxl 232) (pw_ret 232) ∈ lw_tbl := pw_tb_6 (List.mem_of_getElem? (i := 13) rfl)
theorem pw_cd_233 : Cond.code (pw_y 233) (pw_cc 233) (pw_mxl 233) (pw_ret 233) ∈ lw_tbl := pw_tb_6 (List.mem_of_getElem? (i := 5) rfl)
theorem pw_cd_234 : Cond.code (pw_y 234) (pw_cc 234) (pw_mxl 234) (pw_ret 234) ∈ lw_tbl := pw_tb_6 (List.mem_of_getElem? (i := 17) rfl)
theorem pw_cd_235 : Cond.code (pw_y 235) (pw_cc 235) (pw_mxl 235) (pw_ret 235) ∈ lw_tbl := pw_tb_6 (List.mem_of_getElem? (i := 1) rfl)
theorem pw_cd_236 : Cond.code (pw_y 236) (pw_cc 236) (pw_mxl 236) (pw_ret 236) ∈ lw_tbl := pw_tb_6 (List.mem_of_getElem? (i := 21) rfl)
theorem pw_cd_237 : Cond.code (pw_y 237) (pw_cc 237) (pw_mxl 237) (pw_ret 237) ∈ lw_tbl := pw_tb_5 (List.mem_of_getElem? (i := 94) rfl)
theorem pw_cd_238 : Cond.code (pw_y 238) (pw_cc 238) (pw_mxl 238) (pw_ret 238) ∈ lw_tbl := pw_tb_7 (List.mem_of_getElem? (i := 49) rfl)
theorem pw_cd_239 : Cond.code (pw_y 239) (pw_cc 239) (pw_mxl 239) (pw_ret 239) ∈ lw_tbl := pw_tb_7 (List.mem_of_getElem? (i := 53) rfl)
theorem pw_cd_240 : Cond.code (pw_y 240) (pw_cc 240) (pw_mxl 240) (pw_ret 240) ∈ lw_tbl := pw_tb_5 (List.mem_of_getElem? (i := 17) rfl)
theorem pw_cd_241 : Cond.code (pw_y 241) (pw_cc 241) (pw_mxl 241) (pw_ret 241) ∈ lw_tbl := pw_tb_5 (List.mem_of_getElem? (i := 28) rfl)
theorem pw_cd_242 : Cond.code (pw_y 242) (pw_cc 242) (pw_mxl 242) (pw_ret 242) ∈ lw_tbl := pw_tb_5 (List.mem_of_getElem? (i := 14) rfl)
theorem pw_cd_243 : Cond.code (pw_y 243) (pw_cc 243) (pw_mxl 243) (pw_ret 243) ∈ lw_tbl := pw_tb_5 (List.mem_of_getElem? (i := 21) rfl)
theorem pw_cd_244 : Cond.code (pw_y 244) (pw_cc 244) (pw_mxl 244) (pw_ret 244) ∈ lw_tbl := pw_tb_5 (List.mem_of_getElem? (i := 62) rfl)
theorem pw_cd_245 : Cond.code (pw_y 245) (pw_cc 245) (pw_mxl 245) (pw_ret 245) ∈ lw_tbl := pw_tb_5 (List.mem_of_getElem? (i := 70) rfl)
theorem pw_cd_246 : Cond.code (pw_y 246) (pw_cc 246) (pw_mxl 246) (pw_ret 246) ∈ lw_tbl := pw_tb_5 (List.mem_of_getElem? (i := 78) rfl)
theorem pw_cd_247 : Cond.code (pw_y 247) (pw_cc 247) (pw_mxl 247) (pw_ret 247) ∈ lw_tbl := pw_tb_5 (List.mem_of_getElem? (i := 74) rfl)
theorem pw_cd_248 : Cond.code (pw_y 248) (pw_cc 248) (pw_mxl 248) (pw_ret 248) ∈ lw_tbl := pw_tb_5 (List.mem_of_getElem? (i := 90) rfl)
theorem pw_cd_249 : Cond.code (pw_y 249) (pw_cc 249) (pw_mxl 249) (pw_ret 249) ∈ lw_tbl := pw_tb_5 (List.mem_of_getElem? (i := 86) rfl)
theorem pw_cd_250 : Cond.code (pw_y 250) (pw_cc 250) (pw_mxl 250) (pw_ret 250) ∈ lw_tbl := pw_tb_5 (List.mem_of_getElem? (i := 82) rfl)
theorem pw_cd_251 : Cond.code (pw_y 251) (pw_cc 251) (pw_mxl 251) (pw_ret 251) ∈ lw_tbl := pw_tb_6 (List.mem_of_getElem? (i := 30) rfl)
theorem pw_cd_252 : Cond.code (pw_y 252) (pw_cc 252) (pw_mxl 252) (pw_ret 252) ∈ lw_tbl := pw_tb_6 (List.mem_of_getElem? (i := 34) rfl)
theorem pw_cd_253 : Cond.code (pw_y 253) (pw_cc 253) (pw_mxl 253) (pw_ret 253) ∈ lw_tbl := pw_tb_6 (List.mem_of_getElem? (i := 38) rfl)
theorem pw_cd_254 : Cond.code (pw_y 254) (pw_cc 254) (pw_mxl 254) (pw_ret 254) ∈ lw_tbl := pw_tb_6 (List.mem_of_getElem? (i := 42) rfl)
theorem pw_cd_255 : Cond.code (pw_y 255) (pw_cc 255) (pw_mxl 255) (pw_ret 255) ∈ lw_tbl := pw_tb_6 (List.mem_of_getElem? (i := 47) rfl)
theorem pw_cd_256 : Cond.code (pw_y 256) (pw_cc 256) (pw_mxl 256) (pw_ret 256) ∈ lw_tbl := pw_tb_6 (List.mem_of_getElem? (i := 51) rfl)
theorem pw_cd_257 : Cond.code (pw_y 257) (pw_cc 257) (pw_mxl 257) (pw_ret 257) ∈ lw_tbl := pw_tb_6 (List.mem_of_getElem? (i := 55) rfl)
theorem pw_cd_258 : Cond.code (pw_y 258) (pw_cc 258) (pw_mxl 258) (pw_ret 258) ∈ lw_tbl := pw_tb_6 (List.mem_of_getElem? (i := 59) rfl)
theorem pw_cd_259 : Cond.code (pw_y 259) (pw_cc 259) (pw_mxl 259) (pw_ret 259) ∈ lw_tbl := pw_tb_6 (List.mem_of_getElem? (i := 63) rfl)
theorem pw_cd_260 : Cond.code (pw_y 260) (pw_cc 260) (pw_mxl 260) (pw_ret 260) ∈ lw_tbl := pw_tb_6 (List.mem_of_getElem? (i := 67) rfl)
theorem pw_cd_261 : Cond.code (pw_y 261) (pw_cc 261) (pw_mxl 261) (pw_ret 261) ∈ lw_tbl := pw_tb_6 (List.mem_of_getElem? (i := 71) rfl)
theorem pw_cd_262 : Cond.code (pw_y 262) (pw_cc 262) (pw_mxl 262) (pw_ret 262) ∈ lw_tbl := pw_tb_6 (List.mem_of_getElem? (i := 79) rfl)
theorem pw_cd_263 : Cond.code (pw_y 263) (pw_cc 263) (pw_mxl 263) (pw_ret 263) ∈ lw_tbl := pw_tb_6 (List.mem_of_getElem? (i := 75) rfl)
theorem pw_cd_264 : Cond.code (pw_y 264) (pw_cc 264) (pw_mxl 264) (pw_ret 264) ∈ lw_tbl := pw_tb_6 (List.mem_of_getElem? (i := 83) rfl)
theorem pw_cd_265 : Cond.code (pw_y 265) (pw_cc 265) (pw_mxl 265) (pw_ret 265) ∈ lw_tbl := pw_tb_6 (List.mem_of_getElem? (i := 91) rfl)
theorem pw_cd_266 : Cond.code (pw_y 266) (pw_cc 266) (pw_mxl 266) (pw_ret 266) ∈ lw_tbl := pw_tb_6 (List.mem_of_getElem? (i := 95) rfl)
theorem pw_cd_267 : Cond.code (pw_y 267) (pw_cc 267) (pw_mxl 267) (pw_ret 267) ∈ lw_tbl := pw_tb_6 (List.mem_of_getElem? (i := 87) rfl)
theorem pw_cd_268 : Cond.code (pw_y 268) (pw_cc 268) (pw_mxl 268) (pw_ret 268) ∈ lw_tbl := pw_tb_6 (List.mem_of_getElem? (i := 25) rfl)
theorem pw_cd_269 : Cond.code (pw_y 269) (pw_cc 269) (pw_mxl 269) (pw_ret 269) ∈ lw_tbl := pw_tb_6 (List.mem_of_getElem? (i := 100) rfl)
theorem pw_cd_270 : Cond.code (pw_y 270) (pw_cc 270) (pw_mxl 270) (pw_ret 270) ∈ lw_tbl := pw_tb_6 (List.mem_of_getElem? (i := 108) rfl)
theorem pw_cd_271 : Cond.code (pw_y 271) (pw_cc 271) (pw_mxl 271) (pw_ret 271) ∈ lw_tbl := pw_tb_6 (List.mem_of_getElem? (i := 104) rfl)
theorem pw_cd_272 : Cond.code (pw_y 272) (pw_cc 272) (pw_mxl 272) (pw_ret 272) ∈ lw_tbl := pw_tb_6 (List.mem_of_getElem? (i := 112) rfl)
theorem pw_cd_273 : Cond.code (pw_y 273) (pw_cc 273) (pw_mxl 273) (pw_ret 273) ∈ lw_tbl := pw_tb_6 (List.mem_of_getElem? (i := 116) rfl)
theorem pw_cd_274 : Cond.code (pw_y 274) (pw_cc 274) (pw_mxl 274) (pw_ret 274) ∈ lw_tbl := pw_tb_6 (List.mem_of_getElem? (i := 120) rfl)
theorem pw_cd_275 : Cond.code (pw_y 275) (pw_cc 275) (pw_mxl 275) (pw_ret 275) ∈ lw_tbl := pw_tb_6 (List.mem_of_getElem? (i := 124) rfl)
theorem pw_cd_276 : Cond.code (pw_y 276) (pw_cc 276) (pw_mxl 276) (pw_ret 276) ∈ lw_tbl := pw_tb_6 (List.mem_of_getElem? (i := 128) rfl)
theorem pw_cd_277 : Cond.code (pw_y 277) (pw_cc 277) (pw_mxl 277) (pw_ret 277) ∈ lw_tbl := pw_tb_6 (List.mem_of_getElem? (i := 132) rfl)
theorem pw_cd_278 : Cond.code (pw_y 278) (pw_cc 278) (pw_mxl 278) (pw_ret 278) ∈ lw_tbl := pw_tb_6 (List.mem_of_getElem? (i := 136) rfl)
theorem pw_cd_279 : Cond.code (pw_y 279) (pw_cc 279) (pw_mxl 279) (pw_ret 279) ∈ lw_tbl := pw_tb_6 (List.mem_of_getElem? (i := 140) rfl)
theorem pw_cd_280 : Cond.code (pw_y 280) (pw_cc 280) (pw_mxl 280) (pw_ret 280) ∈ lw_tbl := pw_tb_6 (List.mem_of_getElem? (i := 144) rfl)
theorem pw_cd_281 : Cond.code (pw_y 281) (pw_cc 281) (pw_mxl 281) (pw_ret 281) ∈ lw_tbl := pw_tb_6 (List.mem_of_getElem? (i := 148) rfl)
theorem pw_cd_282 : Cond.code (pw_y 282) (pw_cc 282) (pw_mxl 282) (pw_ret 282) ∈ lw_tbl := pw_tb_6 (List.mem_of_getElem? (i := 153) rfl)
theorem pw_cd_283 : Cond.code (pw_y 283) (pw_cc 283) (pw_mxl 283) (pw_ret 283) ∈ lw_tbl := pw_tb_6 (List.mem_of_getElem? (i := 157) rfl)
theorem pw_cd_284 : Cond.code (pw_y 284) (pw_cc 284) (pw_mxl 284) (pw_ret 284) ∈ lw_tbl := pw_tb_6 (List.mem_of_getElem? (i := 161) rfl)
theorem pw_cd_285 : Cond.code (pw_y 285) (pw_cc 285) (pw_mxl 285) (pw_ret 285) ∈ lw_tbl := pw_tb_6 (List.mem_of_getElem? (i := 165) rfl)
theorem pw_cd_286 : Cond.code (pw_y 286) (pw_cc 286) (pw_mxl 286) (pw_ret 286) ∈ lw_tbl := pw_tb_6 (List.mem_of_getElem? (i := 169) rfl)
theorem pw_cd_287 : Cond.code (pw_y 287) (pw_cc 287) (pw_mxl 287) (pw_ret 287) ∈ lw_tbl := pw_tb_6 (List.mem_of_getElem? (i := 173) rfl)
theorem pw_cd_288 : Cond.code (pw_y 288) (pw_cc 288) (pw_mxl 288) (pw_ret 288) ∈ lw_tbl := pw_tb_6 (List.mem_of_getElem? (i := 177) rfl)
theorem pw_cd_289 : Cond.code (pw_y 289) (pw_cc 289) (pw_mxl 289) (pw_ret 289) ∈ lw_tbl := pw_tb_6 (List.mem_of_getElem? (i := 181) rfl)
theorem pw_cd_290 : Cond.code (pw_y 290) (pw_cc 290) (pw_mxl 290) (pw_ret 290) ∈ lw_tbl := pw_tb_6 (List.mem_of_getElem? (i := 185) rfl)
theorem pw_cd_291 : Cond.code (pw_y 291) (pw_cc 291) (pw_mxl 291) (pw_ret 291) ∈ lw_tbl := pw_tb_6 (List.mem_of_getElem? (i := 189) rfl)
theorem pw_cd_292 : Cond.code (pw_y 292) (pw_cc 292) (pw_mxl 292) (pw_ret 292) ∈ lw_tbl := pw_tb_6 (List.mem_of_getElem? (i := 193) rfl)
theorem pw_cd_293 : Cond.code (pw_y 293) (pw_cc 293) (pw_mxl 293) (pw_ret 293) ∈ lw_tbl := pw_tb_6 (List.mem_of_getElem? (i := 207) rfl)
theorem pw_cd_294 : Cond.code (pw_y 294) (pw_cc 294) (pw_mxl 294) (pw_ret 294) ∈ lw_tbl := pw_tb_6 (List.mem_of_getElem? (i := 221) rfl)
theorem pw_cd_295 : Cond.code (pw_y 295) (pw_cc 295) (pw_mxl 295) (pw_ret 295) ∈ lw_tbl := pw_tb_6 (List.mem_of_getElem? (i := 225) rfl)
theorem pw_cd_296 : Cond.code (pw_y 296) (pw_cc 296) (pw_mxl 296) (pw_ret 296) ∈ lw_tbl := pw_tb_6 (List.mem_of_getElem? (i := 229) rfl)
theorem pw_cd_297 : Cond.code (pw_y 297) (pw_cc 297) (pw_mxl 297) (pw_ret 297) ∈ lw_tbl := pw_tb_6 (List.mem_of_getElem? (i := 234) rfl)
theorem pw_cd_298 : Cond.code (pw_y 298) (pw_cc 298) (pw_mxl 298) (pw_ret 298) ∈ lw_tbl := pw_tb_6 (List.mem_of_getElem? (i := 239) rfl)
theorem pw_cd_299 : Cond.code (pw_y 299) (pw_cc 299) (pw_mxl 299) (pw_ret 299) ∈ lw_tbl := pw_tb_7 (List.mem_of_getElem? (i := 7) rfl)
theorem pw_cd_300 : Cond.code (pw_y 300) (pw_cc 300) (pw_mxl 300) (pw_ret 300) ∈ lw_tbl := pw_tb_7 (List.mem_of_getElem? (i := 3) rfl)
theorem pw_cd_301 : Cond.code (pw_y 301) (pw_cc 301) (pw_mxl 301) (pw_ret 301) ∈ lw_tbl := pw_tb_7 (List.mem_of_getElem? (i := 11) rfl)
theorem pw_cd_302 : Cond.code (pw_y 302) (pw_cc 302) (pw_mxl 302) (pw_ret 302) ∈ lw_tbl := pw_tb_7 (List.mem_of_getElem? (i := 22) rfl)
theorem pw_cd_303 : Cond.code (pw_y 303) (pw_cc 303) (pw_mxl 303) (pw_ret 303) ∈ lw_tbl := pw_tb_7 (List.mem_of_getElem? (i := 18) rfl)
theorem pw_cd_304 : Cond.code (pw_y 304) (pw_cc 304) (pw_mxl 304) (pw_ret 304) ∈ lw_tbl := pw_tb_7 (List.mem_of_getElem? (i := 15) rfl)
theorem pw_cd_305 : Cond.code (pw_y 305) (pw_cc 305) (pw_mxl 305) (pw_ret 305) ∈ lw_tbl := pw_tb_7 (List.mem_of_getElem? (i := 33) rfl)
theorem pw_cd_306 : Cond.code (pw_y 306) (pw_cc 306) (pw_mxl 306) (pw_ret 306) ∈ lw_tbl := pw_tb_7 (List.mem_of_getElem? (i := 37) rfl)
theorem pw_cd_307 : Cond.code (pw_y 307) (pw_cc 307) (pw_mxl 307) (pw_ret 307) ∈ lw_tbl := pw_tb_7 (List.mem_of_getElem? (i := 30) rfl)
theorem pw_cd_308 : Cond.code (pw_y 308) (pw_cc 308) (pw_mxl 308) (pw_ret 308) ∈ lw_tbl := pw_tb_7 (List.mem_of_getElem? (i := 26) rfl)
theorem pw_cd_309 : Cond.code (pw_y 309) (pw_cc 309) (pw_mxl 309) (pw_ret 309) ∈ lw_tbl := pw_tb_7 (List.mem_of_getElem? (i := 41) rfl)
theorem pw_cd_310 : Cond.code (pw_y 310) (pw_cc 310) (pw_mxl 310) (pw_ret 310) ∈ lw_tbl := pw_tb_7 (List.mem_of_getElem? (i := 45) rfl)
theorem pw_cd_311 : Cond.code (pw_y 311) (pw_cc 311) (pw_mxl 311) (pw_ret 311) ∈ lw_tbl := pw_tb_7 (List.mem_of_getElem? (i := 57) rfl)
theorem pw_cd_312 : Cond.code (pw_y 312) (pw_cc 312) (pw_mxl 312) (pw_ret 312) ∈ lw_tbl := pw_tb_7 (List.mem_of_getElem? (i := 62) rfl)
theorem pw_cd_313 : Cond.code (pw_y 313) (pw_cc 313) (pw_mxl 313) (pw_ret 313) ∈ lw_tbl := pw_tb_7 (List.mem_of_getElem? (i := 66) rfl)
theorem pw_cd_314 : Cond.code (pw_y 314) (pw_cc 314) (pw_mxl 314) (pw_ret 314) ∈ lw_tbl := pw_tb_7 (List.mem_of_getElem? (i := 70) rfl)
theorem pw_cd_315 : Cond.code (pw_y 315) (pw_cc 315) (pw_mxl 315) (pw_ret 315) ∈ lw_tbl := pw_tb_7 (List.mem_of_getElem? (i := 78) rfl)
theorem pw_cd_316 : Cond.code (pw_y 316) (pw_cc 316) (pw_mxl 316) (pw_ret 316) ∈ lw_tbl := pw_tb_7 (List.mem_of_getElem? (i := 74) rfl)
theorem pw_cd_317 : Cond.code (pw_y 317) (pw_cc 317) (pw_mxl 317) (pw_ret 317) ∈ lw_tbl := pw_tb_7 (List.mem_of_getElem? (i := 82) rfl)
theorem pw_cd_318 : Cond.code (pw_y 318) (pw_cc 318) (pw_mxl 318) (pw_ret 318) ∈ lw_tbl := pw_tb_7 (List.mem_of_getElem? (i := 90) rfl)
theorem pw_cd_319 : Cond.code (pw_y 319) (pw_cc 319) (pw_mxl 319) (pw_ret 319) ∈ lw_tbl := pw_tb_7 (List.mem_of_getElem? (i := 86) rfl)
theorem pw_cd_320 : Cond.code (pw_y 320) (pw_cc 320) (pw_mxl 320) (pw_ret 320) ∈ lw_tbl := pw_tb_7 (List.mem_of_getElem? (i := 98) rfl)
theorem pw_cd_321 : Cond.code (pw_y 321) (pw_cc 321) (pw_mxl 321) (pw_ret 321) ∈ lw_tbl := pw_tb_7 (List.mem_of_getElem? (i := 94) rfl)
theorem pw_cd_322 : Cond.code (pw_y 322) (pw_cc 322) (pw_mxl 322) (pw_ret 322) ∈ lw_tbl := pw_tb_7 (List.mem_of_getElem? (i := 102) rfl)
theorem pw_cd_323 : Cond.code (pw_y 323) (pw_cc 323) (pw_mxl 323) (pw_ret 323) ∈ lw_tbl := pw_tb_7 (List.mem_of_getElem? (i := 106) rfl)
theorem pw_cd_324 : Cond.code (pw_y 324) (pw_cc 324) (pw_mxl 324) (pw_ret 324) ∈ lw_tbl := pw_tb_7 (List.mem_of_getElem? (i := 110) rfl)
theorem pw_cd_325 : Cond.code (pw_y 325) (pw_cc 325) (pw_mxl 325) (pw_ret 325) ∈ lw_tbl := pw_tb_7 (List.mem_of_getElem? (i := 114) rfl)
theorem pw_cd_326 : Cond.code (pw_y 326) (pw_cc 326) (pw_mxl 326) (pw_ret 326) ∈ lw_tbl := pw_tb_6 (List.mem_of_getElem? (i := 199) rfl)
theorem pw_cd_327 : Cond.code (pw_y 327) (pw_cc 327) (pw_mxl 327) (pw_ret 327) ∈ lw_tbl := pw_tb_6 (List.mem_of_getElem? (i := 196) rfl)
theorem pw_cd_328 : Cond.code (pw_y 328) (pw_cc 328) (pw_mxl 328) (pw_ret 328) ∈ lw_tbl := pw_tb_6 (List.mem_of_getElem? (i := 213) rfl)
theorem pw_cd_329 : Cond.code (pw_y 329) (pw_cc 329) (pw_mxl 329) (pw_ret 329) ∈ lw_tbl := pw_tb_6 (List.mem_of_getElem? (i := 210) rfl)
theorem pw_cd_330 : Cond.code (pw_y 330) (pw_cc 330) (pw_mxl 330) (pw_ret 330) ∈ lw_tbl := pw_tb_4 (List.mem_of_getElem? (i := 170) rfl)
theorem pw_cd_331 : Cond.code (pw_y 331) (pw_cc 331) (pw_mxl 331) (pw_ret 331) ∈ lw_tbl := pw_tb_4 (List.mem_of_getElem? (i := 39) rfl)
theorem pw_cd_332 : Cond.code (pw_y 332) (pw_cc 332) (pw_mxl 332) (pw_ret 332) ∈ lw_tbl := pw_tb_2 (List.mem_of_getElem? (i := 56) rfl)
theorem pw_cd_333 : Cond.code (pw_y 333) (pw_cc 333) (pw_mxl 333) (pw_ret 333) ∈ lw_tbl := pw_tb_2 (List.mem_of_getElem? (i := 112) rfl)
theorem pw_cd_334 : Cond.code (pw_y 334) (pw_cc 334) (pw_mxl 334) (pw_ret 334) ∈ lw_tbl := pw_tb_2 (List.mem_of_getElem? (i := 71) rfl)
theorem pw_cd_335 : Cond.code (pw_y 335) (pw_cc 335) (pw_mxl 335) (pw_ret 335) ∈ lw_tbl := pw_tb_1 (List.mem_of_getElem? (i := 203) rfl)
theorem pw_cd_336 : Cond.code (pw_y 336) (pw_cc 336) (pw_mxl 336) (pw_ret 336) ∈ lw_tbl := pw_tb_4 (List.mem_of_getElem? (i := 61) rfl)
theorem pw_cd_337 : Cond.code (pw_y 337) (pw_cc 337) (pw_mxl 337) (pw_ret 337) ∈ lw_tbl := pw_tb_4 (List.mem_of_getElem? (i := 54) rfl)
theorem pw_cd_338 : Cond.code (pw_y 338) (pw_cc 338) (pw_mxl 338) (pw_ret 338) ∈ lw_tbl := pw_tb_0 (List.mem_of_getElem? (i := 123) rfl)
theorem pw_cds_0 : ∀ j ∈ [1, 2, 3, 4, 5, 6, 7, 8, 9, 10, 11, 12, 13, 14, 15, 16, 17, 18, 19, 20], Cond.code (pw_y j) (pw_cc j) (pw_mxl j) (pw_ret j) ∈ lw_tbl := List.forall_mem_cons.mpr ⟨pw_cd_1, List.forall_mem_cons.mpr ⟨pw_cd_2, List.forall_mem_cons.mpr ⟨pw_cd_3, List.forall_mem_cons.mpr ⟨pw_cd_4, List.forall_mem_cons.mpr ⟨pw_cd_5, List.forall_mem_cons.mpr ⟨pw_cd_6, List.forall_mem_cons.mpr ⟨pw_cd_7, List.forall_mem_cons.mpr ⟨pw_cd_8, List.forall_mem_cons.mpr ⟨pw_cd_9, List.forall_mem_cons.mpr ⟨pw_cd_10, List.forall_mem_cons.mpr ⟨pw_cd_11, List.forall_mem_cons.mpr ⟨pw_cd_12, List.forall_mem_cons.mpr ⟨pw_cd_13, List.forall_mem_cons.mpr ⟨pw_cd_14, List.forall_mem_cons.mpr ⟨pw_cd_15, List.forall_mem_cons.mpr ⟨pw_cd_16, List.forall_mem_cons.mpr ⟨pw_cd_17, List.forall_mem_cons.mpr ⟨pw_cd_18, List.forall_mem_cons.mpr ⟨pw_cd_19, List.forall_mem_cons.mpr ⟨pw_cd_20, fun _ h => absurd h List.not_mem_nil⟩⟩⟩⟩⟩⟩⟩⟩⟩⟩⟩⟩⟩⟩⟩⟩⟩⟩⟩⟩
theorem pw_cds_1 : ∀ j ∈ [21, 22, 23, 24, 25, 26, 27, 28, 29, 30, 31, 32, 33, 34, 35, 36, 37, 38, 39, 40], Cond.code (pw_y j) (pw_cc j) (pw_mxl j) (pw_ret j) ∈ lw_tbl := List.forall_mem_cons.mpr ⟨pw_cd_21, List.forall_mem_cons.mpr ⟨pw_cd_22, List.forall_mem_cons.mpr ⟨pw_cd_23, List.forall_mem_cons.mpr ⟨pw_cd_24, List.forall_mem_cons.mpr ⟨pw_cd_25, List.forall_mem_cons.mpr ⟨pw_cd_26, List.forall_mem_cons.mpr ⟨pw_cd_27, List.forall_mem_cons.mpr ⟨pw_cd_28, List.forall_mem_cons.mpr ⟨pw_cd_29, List.forall_mem_cons.mpr ⟨pw_cd_30, List.forall_mem_cons.mpr ⟨pw_cd_31, List.forall_mem_cons.mpr ⟨pw_cd_32, List.forall_mem_cons.mpr ⟨pw_cd_33, List.forall_mem_cons.mpr ⟨pw_cd_34, List.forall_mem_cons.mpr ⟨pw_cd_35, List.forall_mem_cons.mpr ⟨pw_cd_36, List.forall_mem_cons.mpr ⟨pw_cd_37, List.forall_mem_cons.mpr ⟨pw_cd_38, List.forall_mem_cons.mpr ⟨pw_cd_39, List.forall_mem_cons.mpr ⟨pw_cd_40, fun _ h => absurd h List.not_mem_nil⟩⟩⟩⟩⟩⟩⟩⟩⟩⟩⟩⟩⟩⟩⟩⟩⟩⟩⟩⟩
theorem pw_cds_2 : ∀ j ∈ [41, 42, 43, 44, 45, 46, 47, 48, 49, 50, 51, 52, 53, 54, 55, 56, 57, 58, 59, 60], Cond.code (pw_y j) (pw_cc j) (pw_mxl j) (pw_ret j) ∈ lw_tbl := List.forall_mem_cons.mpr ⟨pw_cd_41, List.forall_mem_cons.mpr ⟨pw_cd_42, List.forall_mem_cons.mpr ⟨pw_cd_43, List.forall_mem_cons.mpr ⟨pw_cd_44, List.forall_mem_cons.mpr ⟨pw_cd_45, List.forall_mem_cons.mpr ⟨pw_cd_46, List.forall_mem_cons.mpr ⟨pw_cd_47, List.forall_mem_cons.mpr ⟨pw_cd_48, List.forall_mem_cons.mpr ⟨pw_cd_49, List.forall_mem_cons.mpr ⟨pw_cd_50, List.forall_mem_cons.mpr ⟨pw_cd_51, List.forall_mem_cons.mpr ⟨pw_cd_52, List.forall_mem_cons.mpr ⟨pw_cd_53, List.forall_mem_cons.mpr ⟨pw_cd_54, List.forall_mem_cons.mpr ⟨pw_cd_55, List.forall_mem_cons.mpr ⟨pw_cd_56, List.forall_mem_cons.mpr ⟨pw_cd_57, List.forall_mem_cons.mpr ⟨pw_cd_58, List.forall_mem_cons.mpr ⟨pw_cd_59, List.forall_mem_cons.mpr ⟨pw_cd_60, fun _ h => absurd h List.not_mem_nil⟩⟩⟩⟩⟩⟩⟩⟩⟩⟩⟩⟩⟩⟩⟩⟩⟩⟩⟩⟩
theorem pw_cds_3 : ∀ j ∈ [61, 62, 63, 64, 65, 66, 67, 68, 69, 70, 71, 72, 73, 74, 75, 76, 77, 78, 79, 80], Cond.code (pw_y j) (pw_cc j) (pw_mxl j) (pw_ret j) ∈ lw_tbl := List.forall_mem_cons.mpr ⟨pw_cd_61, List.forall_mem_cons.mpr ⟨pw_cd_62, List.forall_mem_cons.mpr ⟨pw_cd_63, List.forall_mem_cons.mpr ⟨pw_cd_64, List.forall_mem_cons.mpr ⟨pw_cd_65, List.forall_mem_cons.mpr ⟨pw_cd_66, List.forall_mem_cons.mpr ⟨pw_cd_67, List.forall_mem_cons.mpr ⟨pw_cd_68, List.forall_mem_cons.mpr ⟨pw_cd_69, List.forall_mem_cons.mpr ⟨pw_cd_70, List.forall_mem_cons.mpr ⟨pw_cd_71, List.forall_mem_cons.mpr ⟨pw_cd_72, List.forall_mem_cons.mpr ⟨pw_cd_73, List.forall_mem_cons.mpr ⟨pw_cd_74, List.forall_mem_cons.mpr ⟨pw_cd_75, List.forall_mem_cons.mpr ⟨pw_cd_76, List.forall_mem_cons.mpr ⟨pw_cd_77, List.forall_mem_cons.mpr ⟨pw_cd_78, List.forall_mem_cons.mpr ⟨pw_cd_79, List.forall_mem_cons.mpr ⟨pw_cd_80, fun _ h => absurd h List.not_mem_nil⟩⟩⟩⟩⟩⟩⟩⟩⟩⟩⟩⟩⟩⟩⟩⟩⟩⟩⟩⟩
theorem pw_cds_4 : ∀ j ∈ [81, 82, 83, 84, 85, 86, 87, 88, 89, 90, 91, 92, 93, 94, 95, 96, 97, 98, 99, 100], Cond.code (pw_y j) (pw_cc j) (pw_mxl j) (pw_ret j) ∈ lw_tbl := List.forall_mem_cons.mpr ⟨pw_cd_81, List.forall_mem_cons.mpr ⟨pw_cd_82, List.forall_mem_cons.mpr ⟨pw_cd_83, List.forall_mem_cons.mpr ⟨pw_cd_84, List.forall_mem_cons.mpr ⟨pw_cd_85, List.forall_mem_cons.mpr ⟨pw_cd_86, List.forall_mem_cons.mpr ⟨pw_cd_87, List.forall_mem_cons.mpr ⟨pw_cd_88, List.forall_mem_cons.mpr ⟨pw_cd_89, List.forall_mem_cons.mpr ⟨pw_cd_90, List.forall_mem_cons.mpr ⟨pw_cd_91, List.forall_mem_cons.mpr ⟨pw_cd_92, List.forall_mem_cons.mpr ⟨pw_cd_93, List.forall_mem_cons.mpr ⟨pw_cd_94, List.forall_mem_cons.mpr ⟨pw_cd_95, List.forall_mem_cons.mpr ⟨pw_cd_96, List.forall_mem_cons.mpr ⟨pw_cd_97, List.forall_mem_cons.mpr ⟨pw_cd_98, List.forall_mem_cons.mpr ⟨pw_cd_99, List.forall_mem_cons.mpr ⟨pw_cd_100, fun _ h => absurd h List.not_mem_nil⟩⟩⟩⟩⟩⟩⟩⟩⟩⟩⟩⟩⟩⟩⟩⟩⟩⟩⟩⟩
theorem pw_cds_5 : ∀ j ∈ [101, 102, 103, 104, 105, 106, 107, 108, 109, 110, 111, 112, 113, 114, 115, 116, 117, 118, 119, 120], Cond.code (pw_y j) (pw_cc j) (pw_mxl j) (pw_ret j) ∈ lw_tbl := List.forall_mem_cons.mpr ⟨pw_cd_101, List.forall_mem_cons.mpr ⟨pw_cd_102, List.forall_mem_cons.mpr ⟨pw_cd_103, List.forall_mem_cons.mpr ⟨pw_cd_104, List.forall_mem_cons.mpr ⟨pw_cd_105, List.forall_mem_cons.mpr ⟨pw_cd_106, List.forall_mem_cons.mpr ⟨pw_cd_107, List.forall_mem_cons.mpr ⟨pw_cd_108, List.forall_mem_cons.mpr ⟨pw_cd_109, List.forall_mem_cons.mpr ⟨pw_cd_110, List.forall_mem_cons.mpr ⟨pw_cd_111, List.forall_mem_cons.mpr ⟨pw_cd_112, List.forall_mem_cons.mpr ⟨pw_cd_113, List.forall_mem_cons.mpr ⟨pw_cd_114, List.forall_mem_cons.mpr ⟨pw_cd_115, List.forall_mem_cons.mpr ⟨pw_cd_116, List.forall_mem_cons.mpr ⟨pw_cd_117, List.forall_mem_cons.mpr ⟨pw_cd_118, List.forall_mem_cons.mpr ⟨pw_cd_119, List.forall_mem_cons.mpr ⟨pw_cd_120, fun _ h => absurd h List.not_mem_nil⟩⟩⟩⟩⟩⟩⟩⟩⟩⟩⟩⟩⟩⟩⟩⟩⟩⟩⟩⟩
theorem pw_cds_6 : ∀ j ∈ [121, 122, 123, 124, 125, 126, 127, 128, 129, 130, 131, 132, 133, 134, 135, 136, 137, 138, 139, 140], Cond.code (pw_y j) (pw_cc j) (pw_mxl j) (pw_ret j) ∈ lw_tbl := List.forall_mem_cons.mpr ⟨pw_cd_121, List.forall_mem_cons.mpr ⟨pw_cd_122, List.forall_mem_cons.mpr ⟨pw_cd_123, List.forall_mem_cons.mpr ⟨pw_cd_124, List.forall_mem_cons.mpr ⟨pw_cd_125, List.forall_mem_cons.mpr ⟨pw_cd_126, List.forall_mem_cons.mpr ⟨pw_cd_127, List.forall_mem_cons.mpr ⟨pw_cd_128, List.forall_mem_cons.mpr ⟨pw_cd_129, List.forall_mem_cons.mpr ⟨pw_cd_130, List.forall_mem_cons.mpr ⟨pw_cd_131, List.forall_mem_cons.mpr ⟨pw_cd_132, List.forall_mem_cons.mpr ⟨pw_cd_133, List.forall_mem_cons.mpr ⟨pw_cd_134, List.forall_mem_cons.mpr ⟨pw_cd_135, List.forall_mem_cons.mpr ⟨pw_cd_136, List.forall_mem_cons.mpr ⟨pw_cd_137, List.forall_mem_cons.mpr ⟨pw_cd_138, List.forall_mem_cons.mpr ⟨pw_cd_139, List.forall_mem_cons.mpr ⟨pw_cd_140, fun _ h => absurd h List.not_mem_nil⟩⟩⟩⟩⟩⟩⟩⟩⟩⟩⟩⟩⟩⟩⟩⟩⟩⟩⟩⟩
theorem pw_cds_7 : ∀ j ∈ [141, 142, 143, 144, 145, 146, 147, 148, 149, 150, 151, 152, 153, 154, 155, 156, 157, 158, 159, 160], Cond.code (pw_y j) (pw_cc j) (pw_mxl j) (pw_ret j) ∈ lw_tbl := List.forall_mem_cons.mpr ⟨pw_cd_141, List.forall_mem_cons.mpr ⟨pw_cd_142, List.forall_mem_cons.mpr ⟨pw_cd_143, List.forall_mem_cons.mpr ⟨pw_cd_144, List.forall_mem_cons.mpr ⟨pw_cd_145, List.forall_mem_cons.mpr ⟨pw_cd_146, List.forall_mem_cons.mpr ⟨pw_cd_147, List.forall_mem_cons.mpr ⟨pw_cd_148, List.forall_mem_cons.mpr ⟨pw_cd_149, List.forall_mem_cons.mpr ⟨pw_cd_150, List.forall_mem_cons.mpr ⟨pw_cd_151, List.forall_mem_cons.mpr ⟨pw_cd_152, List.forall_mem_cons.mpr ⟨pw_cd_153, List.forall_mem_cons.mpr ⟨pw_cd_154, List.forall_mem_cons.mpr ⟨pw_cd_155, List.forall_mem_cons.mpr ⟨pw_cd_156, List.forall_mem_cons.mpr ⟨pw_cd_157, List.forall_mem_cons.mpr ⟨pw_cd_158, List.forall_mem_cons.mpr ⟨pw_cd_159, List.forall_mem_cons.mpr ⟨pw_cd_160, fun _ h => absurd h List.not_mem_nil⟩⟩⟩⟩⟩⟩⟩⟩⟩⟩⟩⟩⟩⟩⟩⟩⟩⟩⟩⟩
theorem pw_cds_8 : ∀ j ∈ [161, 162, 163, 164, 165, 166, 167, 168, 169, 170, 171, 172, 173, 174, 175, 176, 177, 178, 179, 180], Cond.code (pw_y j) (pw_cc j) (pw_mxl j) (pw_ret j) ∈ lw_tbl := List.forall_mem_cons.mpr ⟨pw_cd_161, List.forall_mem_cons.mpr ⟨pw_cd_162, List.forall_mem_cons.mpr ⟨pw_cd_163, List.forall_mem_cons.mpr ⟨pw_cd_164, List.forall_mem_cons.mpr ⟨pw_cd_165, List.forall_mem_cons.mpr ⟨pw_cd_166, List.forall_mem_cons.mpr ⟨pw_cd_167, List.forall_mem_cons.mpr ⟨pw_cd_168, List.forall_mem_cons.mpr ⟨pw_cd_169, List.forall_mem_cons.mpr ⟨pw_cd_170, List.forall_mem_cons.mpr ⟨pw_cd_171, List.forall_mem_cons.mpr ⟨pw_cd_172, List.forall_mem_cons.mpr ⟨pw_cd_173, List.forall_mem_cons.mpr ⟨pw_cd_174, List.forall_mem_cons.mpr ⟨pw_cd_175, List.forall_mem_cons.mpr ⟨pw_cd_176, List.forall_mem_cons.mpr ⟨pw_cd_177, List.forall_mem_cons.mpr ⟨pw_cd_178, List.forall_mem_cons.mpr ⟨pw_cd_179, List.forall_mem_cons.mpr ⟨pw_cd_180, fun _ h => absurd h List.not_mem_nil⟩⟩⟩⟩⟩⟩⟩⟩⟩⟩⟩⟩⟩⟩⟩⟩⟩⟩⟩⟩
theorem pw_cds_9 : ∀ j ∈ [181, 182, 183, 184, 185, 186, 187, 188, 189, 190, 191, 192, 193, 194, 195, 196, 197, 198, 199, 200], Cond.code (pw_y j) (pw_cc j) (pw_mxl j) (pw_ret j) ∈ lw_tbl := List.forall_mem_cons.mpr ⟨pw_cd_181, List.forall_mem_cons.mpr ⟨pw_cd_182, List.forall_mem_cons.mpr ⟨pw_cd_183, List.forall_mem_cons.mpr ⟨pw_cd_184, List.forall_mem_cons.mpr ⟨pw_cd_185, List.forall_mem_cons.mpr ⟨pw_cd_186, List.forall_mem_cons.mpr ⟨pw_cd_187, List.forall_mem_cons.mpr ⟨pw_cd_188, List.forall_mem_cons.mpr ⟨pw_cd_189, List.forall_mem_cons.mpr ⟨pw_cd_190, List.forall_mem_cons.mpr ⟨pw_cd_191, List.forall_mem_cons.mpr ⟨pw_cd_192, List.forall_mem_cons.mpr ⟨pw_cd_193, List.forall_mem_cons.mpr ⟨pw_cd_194, List.forall_mem_cons.mpr ⟨pw_cd_195, List.forall_mem_cons.mpr ⟨pw_cd_196, List.forall_mem_cons.mpr ⟨pw_cd_197, List.forall_mem_cons.mpr ⟨pw_cd_198, List.forall_mem_cons.mpr ⟨pw_cd_199, List.forall_mem_cons.mpr ⟨pw_cd_200, fun _ h => absurd h List.not_mem_nil⟩⟩⟩⟩⟩⟩⟩⟩⟩⟩⟩⟩⟩⟩⟩⟩⟩⟩⟩⟩
theorem pw_cds_10 : ∀ j ∈ [201, 202, 203, 204, 205, 206, 207, 208, 209, 210, 211, 212, 213, 214, 215, 216, 217, 218, 219, 220], Cond.code (pw_y j) (pw_cc j) (pw_mxl j) (pw_ret j) ∈ lw_tbl := List.forall_mem_cons.mpr ⟨pw_cd_201, List.forall_mem_cons.mpr ⟨pw_cd_202, List.forall_mem_cons.mpr ⟨pw_cd_203, List.forall_mem_cons.mpr ⟨pw_cd_204, List.forall_mem_cons.mpr ⟨pw_cd_205, List.forall_mem_cons.mpr ⟨pw_cd_206, List.forall_mem_cons.mpr ⟨pw_cd_207, List.forall_mem_cons.mpr ⟨pw_cd_208, List.forall_mem_cons.mpr ⟨pw_cd_209, List.forall_mem_cons.mpr ⟨pw_cd_210, List.forall_mem_cons.mpr ⟨pw_cd_211, List.forall_mem_cons.mpr ⟨pw_cd_212, List.forall_mem_cons.mpr ⟨pw_cd_213, List.forall_mem_cons.mpr ⟨pw_cd_214, List.forall_mem_cons.mpr ⟨pw_cd_215, List.forall_mem_cons.mpr ⟨pw_cd_216, List.forall_mem_cons.mpr ⟨pw_cd_217, List.forall_mem_cons.mpr ⟨pw_cd_218, List.forall_mem_cons.mpr ⟨pw_cd_219, List.forall_mem_cons.mpr ⟨pw_cd_220, fun _ h => absurd h List.not_mem_nil⟩⟩⟩⟩⟩⟩⟩⟩⟩⟩⟩⟩⟩⟩⟩⟩⟩⟩⟩⟩
theorem pw_cds_11 : ∀ j ∈ [221, 222, 223, 224, 225, 226, 227, 228, 229, 230, 231, 232, 233, 234, 235, 236, 237, 238, 239, 240], Cond.code (pw_y j) (pw_cc j) (pw_mxl j) (pw_ret j) ∈ lw_tbl := List.forall_mem_cons.mpr ⟨pw_cd_221, List.forall_mem_cons.mpr ⟨pw_cd_222, List.forall_mem_cons.mpr ⟨pw_cd_223, List.forall_mem_cons.mpr ⟨pw_cd_224, List.forall_mem_cons.mpr ⟨pw_cd_225, List.forall_mem_cons.mpr ⟨pw_cd_226, List.forall_mem_cons.mpr ⟨pw_cd_227, List.forall_mem_cons.mpr ⟨pw_cd_228, List.forall_mem_cons.mpr ⟨pw_cd_229, List.forall_mem_cons.mpr ⟨pw_cd_230, List.forall_mem_cons.mpr ⟨pw_cd_231, List.forall_mem_cons.mpr ⟨pw_cd_232, List.forall_mem_cons.mpr ⟨pw_cd_233, List.forall_mem_cons.mpr ⟨pw_cd_234, List.forall_mem_cons.mpr ⟨pw_cd_235, List.forall_mem_cons.mpr ⟨pw_cd_236, List.forall_mem_cons.mpr ⟨pw_cd_237, List.forall_mem_cons.mpr ⟨pw_cd_238, List.forall_mem_cons.mpr ⟨pw_cd_239, List.forall_mem_cons.mpr ⟨pw_cd_240, fun _ h => absurd h List.not_mem_nil⟩⟩⟩⟩⟩⟩⟩⟩⟩⟩⟩⟩⟩⟩⟩⟩⟩⟩⟩⟩
theorem pw_cds_12 : ∀ j ∈ [241, 242, 243, 244, 245, 246, 247, 248, 249, 250, 251, 252, 253, 254, 255, 256, 257, 258, 259, 260], Cond.code (pw_y j) (pw_cc j) (pw_mxl j) (pw_ret j) ∈ lw_tbl := List.forall_mem_cons.mpr ⟨pw_cd_241, List.forall_mem_cons.mpr ⟨pw_cd_242, List.forall_mem_cons.mpr ⟨pw_cd_243, List.forall_mem_cons.mpr ⟨pw_cd_244, List.forall_mem_cons.mpr ⟨pw_cd_245, List.forall_mem_cons.mpr ⟨pw_cd_246, List.forall_mem_cons.mpr ⟨pw_cd_247, List.forall_mem_cons.mpr ⟨pw_cd_248, List.forall_mem_cons.mpr ⟨pw_cd_249, List.forall_mem_cons.mpr ⟨pw_cd_250, List.forall_mem_cons.mpr ⟨pw_cd_251, List.forall_mem_cons.mpr ⟨pw_cd_252, List.forall_mem_cons.mpr ⟨pw_cd_253, List.forall_mem_cons.mpr ⟨pw_cd_254, List.forall_mem_cons.mpr ⟨pw_cd_255, List.forall_mem_cons.mpr ⟨pw_cd_256, List.forall_mem_cons.mpr ⟨pw_cd_257, List.forall_mem_cons.mpr ⟨pw_cd_258, List.forall_mem_cons.mpr ⟨pw_cd_259, List.forall_mem_cons.mpr ⟨pw_cd_260, fun _ h => absurd h List.not_mem_nil⟩⟩⟩⟩⟩⟩⟩⟩⟩⟩⟩⟩⟩⟩⟩⟩⟩⟩⟩⟩
theorem pw_cds_13 : ∀ j ∈ [261, 262, 263, 264, 265, 266, 267, 268, 269, 270, 271, 272, 273, 274, 275, 276, 277, 278, 279, 280], Cond.code (pw_y j) (pw_cc j) (pw_mxl j) (pw_ret j) ∈ lw_tbl := List.forall_mem_cons.mpr ⟨pw_cd_261, List.forall_mem_cons.mpr ⟨pw_cd_262, List.forall_mem_cons.mpr ⟨pw_cd_263, List.forall_mem_cons.mpr ⟨pw_cd_264, List.forall_mem_cons.mpr ⟨pw_cd_265, List.forall_mem_cons.mpr ⟨pw_cd_266, List.forall_mem_cons.mpr ⟨pw_cd_267, List.forall_mem_cons.mpr ⟨pw_cd_268, List.forall_mem_cons.mpr ⟨pw_cd_269, List.forall_mem_cons.mpr ⟨pw_cd_270, List.forall_mem_cons.mpr ⟨pw_cd_271, List.forall_mem_cons.mpr ⟨pw_cd_272, List.forall_mem_cons.mpr ⟨pw_cd_273, List.forall_mem_cons.mpr ⟨pw_cd_274, List.forall_mem_cons.mpr ⟨pw_cd_275, List.forall_mem_cons.mpr ⟨pw_cd_276, List.forall_mem_cons.mpr ⟨pw_cd_277, List.forall_mem_cons.mpr ⟨pw_cd_278, List.forall_mem_cons.mpr ⟨pw_cd_279, List.forall_mem_cons.mpr ⟨pw_cd_280, fun _ h => absurd h List.not_mem_nil⟩⟩⟩⟩⟩⟩⟩⟩⟩⟩⟩⟩⟩⟩⟩⟩⟩⟩⟩⟩
theorem pw_cds_14 : ∀ j ∈ [281, 282, 283, 284, 285, 286, 287, 288, 289, 290, 291, 292, 293, 294, 295, 296, 297, 298, 299, 300], Cond.code (pw_y j) (pw_cc j) (pw_mxl j) (pw_ret j) ∈ lw_tbl := List.forall_mem_cons.mpr ⟨pw_cd_281, List.forall_mem_cons.mpr ⟨pw_cd_282, List.forall_mem_cons.mpr ⟨pw_cd_283, List.forall_mem_cons.mpr ⟨pw_cd_284, List.forall_mem_cons.mpr ⟨pw_cd_285, List.forall_mem_cons.mpr ⟨pw_cd_286, List.forall_mem_cons.mpr ⟨pw_cd_287, List.forall_mem_cons.mpr ⟨pw_cd_288, List.forall_mem_cons.mpr ⟨pw_cd_289, List.forall_mem_cons.mpr ⟨pw_cd_290, List.forall_mem_cons.mpr ⟨pw_cd_291, List.forall_mem_cons.mpr ⟨pw_cd_292, List.forall_mem_cons.mpr ⟨pw_cd_293, List.forall_mem_cons.mpr ⟨pw_cd_294, List.forall_mem_cons.mpr ⟨pw_cd_295, List.forall_mem_cons.mpr ⟨pw_cd_296, List.forall_mem_cons.mpr ⟨pw_cd_297, List.forall_mem_cons.mpr ⟨pw_cd_298, List.forall_mem_cons.mpr ⟨pw_cd_299, List.forall_mem_cons.mpr ⟨pw_cd_300, fun _ h => absurd h List.not_mem_nil⟩⟩⟩⟩⟩⟩⟩⟩⟩⟩⟩⟩⟩⟩⟩⟩⟩⟩⟩⟩
theorem pw_cds_15 : ∀ j ∈ [301, 302, 303, 304, 305, 306, 307, 308, 309, 310, 311, 312, 313, 314, 315, 316, 317, 318, 319, 320], Cond.code (pw_y j) (pw_cc j) (pw_mxl j) (pw_ret j) ∈ lw_tbl := List.forall_mem_cons.mpr ⟨pw_cd_301, List.forall_mem_cons.mpr ⟨pw_cd_302, List.forall_mem_cons.mpr ⟨pw_cd_303, List.forall_mem_cons.mpr ⟨pw_cd_304, List.forall_mem_cons.mpr ⟨pw_cd_305, List.forall_mem_cons.mpr ⟨pw_cd_306, List.forall_mem_cons.mpr ⟨pw_cd_307, List.forall_mem_cons.mpr ⟨pw_cd_308, List.forall_mem_cons.mpr ⟨pw_cd_309, List.forall_mem_cons.mpr ⟨pw_cd_310, List.forall_mem_cons.mpr ⟨pw_cd_311, List.forall_mem_cons.mpr ⟨pw_cd_312, List.forall_mem_cons.mpr ⟨pw_cd_313, List.forall_mem_cons.mpr ⟨pw_cd_314, List.forall_mem_cons.mpr ⟨pw_cd_315, List.forall_mem_cons.mpr ⟨pw_cd_316, List.forall_mem_cons.mpr ⟨pw_cd_317, List.forall_mem_cons.mpr ⟨pw_cd_318, List.forall_mem_cons.mpr ⟨pw_cd_319, List.forall_mem_cons.mpr ⟨pw_cd_320, fun _ h => absurd h List.not_mem_nil⟩⟩⟩⟩⟩⟩⟩⟩⟩⟩⟩⟩⟩⟩⟩⟩⟩⟩⟩⟩
theorem pw_cds_16 : ∀ j ∈ [321, 322, 323, 324, 325, 326, 327, 328, 329, 330, 331, 332, 333, 334, 335, 336, 337, 338], Cond.code (pw_y j) (pw_cc j) (pw_mxl j) (pw_ret j) ∈ lw_tbl := List.forall_mem_cons.mpr ⟨pw_cd_321, List.forall_mem_cons.mpr ⟨pw_cd_322, List.forall_mem_cons.mpr ⟨pw_cd_323, List.forall_mem_cons.mpr ⟨pw_cd_324, List.forall_mem_cons.mpr ⟨pw_cd_325, List.forall_mem_cons.mpr ⟨pw_cd_326, List.forall_mem_cons.mpr ⟨pw_cd_327, List.forall_mem_cons.mpr ⟨pw_cd_328, List.forall_mem_cons.mpr ⟨pw_cd_329, List.forall_mem_cons.mpr ⟨pw_cd_330, List.forall_mem_cons.mpr ⟨pw_cd_331, List.forall_mem_cons.mpr ⟨pw_cd_332, List.forall_mem_cons.mpr ⟨pw_cd_333, List.forall_mem_cons.mpr ⟨pw_cd_334, List.forall_mem_cons.mpr ⟨pw_cd_335, List.forall_mem_cons.mpr ⟨pw_cd_336, List.forall_mem_cons.mpr ⟨pw_cd_337, List.forall_mem_cons.mpr ⟨pw_cd_338, fun _ h => absurd h List.not_mem_nil⟩⟩⟩⟩⟩⟩⟩⟩⟩⟩⟩⟩⟩⟩⟩⟩⟩⟩
set_option maxRecDepth 100000 in
theorem pw_cds : ∀ j ∈ pw_ck, Cond.code (pw_y j) (pw_cc j) (pw_mxl j) (pw_ret j) ∈ lw_tbl := by
  show ∀ j ∈ [1, 2, 3, 4, 5, 6, 7, 8, 9, 10, 11, 12, 13, 14, 15, 16, 17, 18, 19, 20] ++ ([21, 22, 23, 24, 25, 26, 27, 28, 29, 30, 31, 32, 33, 34, 35, 36, 37, 38, 39, 40] ++ ([41, 42, 43, 44, 45, 46, 47, 48, 49, 50, 51, 52, 53, 54, 55, 56, 57, 58, 59, 60] ++ ([61, 62, 63, 64, 65, 66, 67, 68, 69, 70, 71, 72, 73, 74, 75, 76, 77, 78, 79, 80] ++ ([81, 82, 83, 84, 85, 86, 87, 88, 89, 90, 91, 92, 93, 94, 95, 96, 97, 98, 99, 100] ++ ([101, 102, 103, 104, 105, 106, 107, 108, 109, 110, 111, 112, 113, 114, 115, 116, 117, 118, 119, 120] ++ ([121, 122, 123, 124, 125, 126, 127, 128, 129, 130, 131, 132, 133, 134, 135, 136, 137, 138, 139, 140] ++ ([141, 142, 143, 144, 145, 146, 147, 148, 149, 150, 151, 152, 153, 154, 155, 156, 157, 158, 159, 160] ++ ([161, 162, 163, 164, 165, 166, 167, 168, 169, 170, 171, 172, 173, 174, 175, 176, 177, 178, 179, 180] ++ ([181, 182, 183, 184, 185, 186, 187, 188, 189, 190, 191, 192, 193, 194, 195, 196, 197, 198, 199, 200] ++ ([201, 202, 203, 204, 205, 206, 207, 208, 209, 210, 211, 212, 213, 214, 215, 216, 217, 218, 219, 220] ++ ([221, 222, 223, 224, 225, 226, 227, 228, 229, 230, 231, 232, 233, 234, 235, 236, 237, 238, 239, 240] ++ ([241, 242, 243, 244, 245, 246, 247, 248, 249, 250, 251, 252, 253, 254, 255, 256, 257, 258, 259, 260] ++ ([261, 262, 263, 264, 265, 266, 267, 268, 269, 270, 271, 272, 273, 274, 275, 276, 277, 278, 279, 280] ++ ([281, 282, 283, 284, 285, 286, 287, 288, 289, 290, 291, 292, 293, 294, 295, 296, 297, 298, 299, 300] ++ ([301, 302, 303, 304, 305, 306, 307, 308, 309, 310, 311, 312, 313, 314, 315, 316, 317, 318, 319, 320] ++ ([321, 322, 323, 324, 325, 326, 327, 328, 329, 330, 331, 332, 333, 334, 335, 336, 337, 338])))))))))))))))), _
  exact List.forall_mem_append.mpr ⟨pw_cds_0, List.forall_mem_append.mpr ⟨pw_cds_1, List.forall_mem_append.mpr ⟨pw_cds_2, List.forall_mem_append.mpr ⟨pw_cds_3, List.forall_mem_append.mpr ⟨pw_cds_4, List.forall_mem_append.mpr ⟨pw_cds_5, List.forall_mem_append.mpr ⟨pw_cds_6, List.forall_mem_append.mpr ⟨pw_cds_7, List.forall_mem_append.mpr ⟨pw_cds_8, List.forall_mem_append.mpr ⟨pw_cds_9, List.forall_mem_append.mpr ⟨pw_cds_10, List.forall_mem_append.mpr ⟨pw_cds_11, List.forall_mem_append.mpr ⟨pw_cds_12, List.forall_mem_append.mpr ⟨pw_cds_13, List.forall_mem_append.mpr ⟨pw_cds_14, List.forall_mem_append.mpr ⟨pw_cds_15, pw_cds_16⟩⟩⟩⟩⟩⟩⟩⟩⟩⟩⟩⟩⟩⟩⟩⟩
theorem pw_in_cd : ∀ w ∈ pw_Wcd, w ∈ lw_tbl := by
  intro w hw
  obtain ⟨j, hj, rfl⟩ := List.mem_map.mp hw
  exact pw_cds j hj
theorem pw_g_cd : ∀ w ∈ pw_Wcd, goodWord w = true := by
  intro w hw
  obtain ⟨j, hj, rfl⟩ := List.mem_map.mp hw
  rfl
theorem pw_m_lay {w : Cond} (h : w ∈ pw_Wlay) : w ∈ pw_W := List.mem_append_left _ h
theorem pw_m_fl {w : Cond} (h : w ∈ pw_Wfl) : w ∈ pw_W := List.mem_append_right _ (List.mem_append_left _ h)
theorem pw_m_st {w : Cond} (h : w ∈ pw_Wst) : w ∈ pw_W := List.mem_append_right _ (List.mem_append_right _ (List.mem_append_left _ h))
theorem pw_m_co {w : Cond} (h : w ∈ pw_Wco) : w ∈ pw_W := List.mem_append_right _ (List.mem_append_right _ (List.mem_append_right _ (List.mem_append_left _ h)))
theorem pw_m_nl {w : Cond} (h : w ∈ pw_Wnl) : w ∈ pw_W := List.mem_append_right _ (List.mem_append_right _ (List.mem_append_right _ (List.mem_append_right _ (List.mem_append_left _ h))))
theorem pw_m_ni {w : Cond} (h : w ∈ pw_Wni) : w ∈ pw_W := List.mem_append_right _ (List.mem_append_right _ (List.mem_append_right _ (List.mem_append_right _ (List.mem_append_right _ (List.mem_append_left _ h)))))
theorem pw_m_in {w : Cond} (h : w ∈ pw_Win) : w ∈ pw_W := List.mem_append_right _ (List.mem_append_right _ (List.mem_append_right _ (List.mem_append_right _ (List.mem_append_right _ (List.mem_append_right _ (List.mem_append_left _ h))))))
theorem pw_m_ar {w : Cond} (h : w ∈ pw_War) : w ∈ pw_W := List.mem_append_right _ (List.mem_append_right _ (List.mem_append_right _ (List.mem_append_right _ (List.mem_append_right _ (List.mem_append_right _ (List.mem_append_right _ (List.mem_append_left _ h)))))))
theorem pw_m_na {w : Cond} (h : w ∈ pw_Wna) : w ∈ pw_W := List.mem_append_right _ (List.mem_append_right _ (List.mem_append_right _ (List.mem_append_right _ (List.mem_append_right _ (List.mem_append_right _ (List.mem_append_right _ (List.mem_append_right _ (List.mem_append_left _ h))))))))
theorem pw_m_ml {w : Cond} (h : w ∈ pw_Wml) : w ∈ pw_W := List.mem_append_right _ (List.mem_append_right _ (List.mem_append_right _ (List.mem_append_right _ (List.mem_append_right _ (List.mem_append_right _ (List.mem_append_right _ (List.mem_append_right _ (List.mem_append_right _ (List.mem_append_left _ h)))))))))
theorem pw_m_cd {w : Cond} (h : w ∈ pw_Wcd) : w ∈ pw_W := List.mem_append_right _ (List.mem_append_right _ (List.mem_append_right _ (List.mem_append_right _ (List.mem_append_right _ (List.mem_append_right _ (List.mem_append_right _ (List.mem_append_right _ (List.mem_append_right _ (List.mem_append_right _ (List.mem_append_left _ h))))))))))
theorem pw_m_sk {w : Cond} (h : w ∈ pw_Wsk) : w ∈ pw_W := List.mem_append_right _ (List.mem_append_right _ (List.mem_append_right _ (List.mem_append_right _ (List.mem_append_right _ (List.mem_append_right _ (List.mem_append_right _ (List.mem_append_right _ (List.mem_append_right _ (List.mem_append_right _ (List.mem_append_right _ (List.mem_append_left _ h)))))))))))
theorem pw_m_ik {w : Cond} (h : w ∈ pw_Wik) : w ∈ pw_W := List.mem_append_right _ (List.mem_append_right _ (List.mem_append_right _ (List.mem_append_right _ (List.mem_append_right _ (List.mem_append_right _ (List.mem_append_right _ (List.mem_append_right _ (List.mem_append_right _ (List.mem_append_right _ (List.mem_append_right _ (List.mem_append_right _ (List.mem_append_left _ h))))))))))))
theorem pw_m_vk {w : Cond} (h : w ∈ pw_Wvk) : w ∈ pw_W := List.mem_append_right _ (List.mem_append_right _ (List.mem_append_right _ (List.mem_append_right _ (List.mem_append_right _ (List.mem_append_right _ (List.mem_append_right _ (List.mem_append_right _ (List.mem_append_right _ (List.mem_append_right _ (List.mem_append_right _ (List.mem_append_right _ (List.mem_append_right _ (h)))))))))))))
theorem pw_n_fl {w : Cond} (h : w ∈ pw_Nfl) : w ∈ pw_N := List.mem_append_left _ h
theorem pw_n_st {w : Cond} (h : w ∈ pw_Nst) : w ∈ pw_N := List.mem_append_right _ (List.mem_append_left _ h)
theorem pw_n_ml {w : Cond} (h : w ∈ pw_Nml) : w ∈ pw_N := List.mem_append_right _ (List.mem_append_right _ (List.mem_append_left _ h))
theorem pw_n_ao {w : Cond} (h : w ∈ pw_Nao) : w ∈ pw_N := List.mem_append_right _ (List.mem_append_right _ (List.mem_append_right _ h))
theorem pw_n_ca : (Cond.castable "[I" "java/lang/Cloneable") ∈ pw_N := pw_n_ao List.mem_cons_self
theorem pw_W_in : ∀ w ∈ pw_W, w ∈ lw_tbl := by
  unfold pw_W
  refine List.forall_mem_append.mpr ⟨pw_in pw_e_lay, ?_⟩
  refine List.forall_mem_append.mpr ⟨pw_in pw_e_fl, ?_⟩
  refine List.forall_mem_append.mpr ⟨pw_in pw_e_st, ?_⟩
  refine List.forall_mem_append.mpr ⟨pw_in pw_e_co, ?_⟩
  refine List.forall_mem_append.mpr ⟨pw_in pw_e_nl, ?_⟩
  refine List.forall_mem_append.mpr ⟨pw_in pw_e_ni, ?_⟩
  refine List.forall_mem_append.mpr ⟨pw_in pw_e_in, ?_⟩
  refine List.forall_mem_append.mpr ⟨pw_in pw_e_ar, ?_⟩
  refine List.forall_mem_append.mpr ⟨pw_in pw_e_na, ?_⟩
  refine List.forall_mem_append.mpr ⟨pw_in pw_e_ml, ?_⟩
  refine List.forall_mem_append.mpr ⟨pw_in_cd, ?_⟩
  refine List.forall_mem_append.mpr ⟨pw_in pw_e_sk, ?_⟩
  refine List.forall_mem_append.mpr ⟨pw_in pw_e_ik, ?_⟩
  exact pw_in pw_e_vk
theorem pw_W_good : ∀ w ∈ pw_W, goodWord w = true := by
  unfold pw_W
  refine List.forall_mem_append.mpr ⟨List.all_eq_true.mp pw_g_lay, ?_⟩
  refine List.forall_mem_append.mpr ⟨List.all_eq_true.mp pw_g_fl, ?_⟩
  refine List.forall_mem_append.mpr ⟨List.all_eq_true.mp pw_g_st, ?_⟩
  refine List.forall_mem_append.mpr ⟨List.all_eq_true.mp pw_g_co, ?_⟩
  refine List.forall_mem_append.mpr ⟨List.all_eq_true.mp pw_g_nl, ?_⟩
  refine List.forall_mem_append.mpr ⟨List.all_eq_true.mp pw_g_ni, ?_⟩
  refine List.forall_mem_append.mpr ⟨List.all_eq_true.mp pw_g_in, ?_⟩
  refine List.forall_mem_append.mpr ⟨List.all_eq_true.mp pw_g_ar, ?_⟩
  refine List.forall_mem_append.mpr ⟨List.all_eq_true.mp pw_g_na, ?_⟩
  refine List.forall_mem_append.mpr ⟨List.all_eq_true.mp pw_g_ml, ?_⟩
  refine List.forall_mem_append.mpr ⟨pw_g_cd, ?_⟩
  refine List.forall_mem_append.mpr ⟨List.all_eq_true.mp pw_g_sk, ?_⟩
  refine List.forall_mem_append.mpr ⟨List.all_eq_true.mp pw_g_ik, ?_⟩
  exact List.all_eq_true.mp pw_g_vk
theorem pw_N_in : ∀ w ∈ pw_N, w ∈ lw_tbl := by
  unfold pw_N
  refine List.forall_mem_append.mpr ⟨pw_in pw_en_fl, ?_⟩
  refine List.forall_mem_append.mpr ⟨pw_in pw_en_st, ?_⟩
  refine List.forall_mem_append.mpr ⟨pw_in pw_en_ml, ?_⟩
  exact pw_in pw_en_ao
theorem pw_N_nw : ∀ w ∈ pw_N, am_nw_ w = true := by
  unfold pw_N
  refine List.forall_mem_append.mpr ⟨fun w hw => ?_, List.forall_mem_append.mpr ⟨fun w hw => ?_, List.forall_mem_append.mpr ⟨fun w hw => ?_, fun w hw => ?_⟩⟩⟩
  · obtain ⟨e, -, rfl⟩ := List.mem_map.mp hw; rfl
  · obtain ⟨e, -, rfl⟩ := List.mem_map.mp hw; rfl
  · obtain ⟨e, -, rfl⟩ := List.mem_map.mp hw; rfl
  · exact List.all_eq_true.mp (show pw_Nao.all am_nw_ = true from rfl) w hw
