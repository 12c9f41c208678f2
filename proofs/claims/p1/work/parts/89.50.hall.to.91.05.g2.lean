/-! 89.50.hall.lean.txt -/
section
/-! ===== all contracts hold ===== -/
theorem at_pm {c : at_C} {i k : Nat} (h : i < at_CM.length + k) (e : (at_CM ++ at_CA)[i]? = some c) : c ∈ at_CM ++ at_CA.take k := by
  refine List.mem_of_getElem? (i := i) ?_
  rw [← e]
  by_cases h2 : i < at_CM.length
  · rw [List.getElem?_append_left h2, List.getElem?_append_left h2]
  · rw [List.getElem?_append_right (by omega), List.getElem?_append_right (by omega), List.getElem?_take, if_pos (by omega)]
section ATHV
variable {L : Nat} {xs : Nat → Int32} {P : at_C → Prop}
theorem lk_v0 (_h : ∀ c ∈ at_CM ++ at_CA.take 0, at_Valid at_XI (pw_P L xs) c) : at_Valid at_XI (pw_P L xs) at_q0 := at_chk_ok at_XI_XX (fun m h => by have := h.h40; omega) (fun c hc => by cases hc) lk_t0
theorem lk_v1 (_h : ∀ c ∈ at_CM ++ at_CA.take 1, at_Valid at_XI (pw_P L xs) c) : at_Valid at_XI (pw_P L xs) at_q1 := at_chk_ok at_XI_XX (fun m h => by have := h.h40; omega) (fun c hc => by cases hc) lk_t1
theorem lk_v2 (_h : ∀ c ∈ at_CM ++ at_CA.take 2, at_Valid at_XI (pw_P L xs) c) : at_Valid at_XI (pw_P L xs) at_q2 := at_chk_ok at_XI_XX (fun m h => by have := h.h40; omega) (fun c hc => by cases hc) lk_t2
theorem lk_v3 (h : ∀ c ∈ at_CM ++ at_CA.take 3, at_Valid at_XI (pw_P L xs) c) : at_Valid at_XI (pw_P L xs) at_q3 := at_chk_ok at_XI_XX (fun m h => by have := h.h40; omega) (List.forall_mem_cons.mpr ⟨h _ (at_pm (i := 0) (by decide) rfl), (List.forall_mem_cons.mpr ⟨h _ (at_pm (i := 14) (by decide) rfl), (List.forall_mem_cons.mpr ⟨h _ (at_pm (i := 15) (by decide) rfl), (List.forall_mem_cons.mpr ⟨h _ (at_pm (i := 16) (by decide) rfl), (fun c hc => by cases hc)⟩)⟩)⟩)⟩) lk_t3
theorem lk_v4 (h : ∀ c ∈ at_CM ++ at_CA.take 4, at_Valid at_XI (pw_P L xs) c) : at_Valid at_XI (pw_P L xs) at_q4 := at_chk_ok at_XI_XX (fun m h => by have := h.h40; omega) (List.forall_mem_cons.mpr ⟨h _ (at_pm (i := 0) (by decide) rfl), (List.forall_mem_cons.mpr ⟨h _ (at_pm (i := 14) (by decide) rfl), (List.forall_mem_cons.mpr ⟨h _ (at_pm (i := 15) (by decide) rfl), (fun c hc => by cases hc)⟩)⟩)⟩) lk_t4
theorem lk_v5 (h : ∀ c ∈ at_CM ++ at_CA.take 5, at_Valid at_XI (pw_P L xs) c) : at_Valid at_XI (pw_P L xs) at_q5 := at_chk_ok at_XI_XX (fun m h => by have := h.h40; omega) (List.forall_mem_cons.mpr ⟨h _ (at_pm (i := 0) (by decide) rfl), (List.forall_mem_cons.mpr ⟨h _ (at_pm (i := 14) (by decide) rfl), (fun c hc => by cases hc)⟩)⟩) lk_t5
theorem lk_v6 (h : ∀ c ∈ at_CM ++ at_CA.take 6, at_Valid at_XI (pw_P L xs) c) : at_Valid at_XI (pw_P L xs) at_q6 := at_chk_ok at_XI_XX (fun m h => by have := h.h40; omega) (List.forall_mem_cons.mpr ⟨h _ (at_pm (i := 0) (by decide) rfl), (List.forall_mem_cons.mpr ⟨h _ (at_pm (i := 14) (by decide) rfl), (fun c hc => by cases hc)⟩)⟩) lk_t6
theorem lk_v7 (_h : ∀ c ∈ at_CM ++ at_CA.take 7, at_Valid at_XI (pw_P L xs) c) : at_Valid at_XI (pw_P L xs) at_q7 := at_chk_ok at_XI_XX (fun m h => by have := h.h40; omega) (fun c hc => by cases hc) lk_t7
theorem lk_v8 (_h : ∀ c ∈ at_CM ++ at_CA.take 8, at_Valid at_XI (pw_P L xs) c) : at_Valid at_XI (pw_P L xs) at_q8 := at_chk_ok at_XI_XX (fun m h => by have := h.h40; omega) (fun c hc => by cases hc) lk_t8
theorem lk_v9 (h : ∀ c ∈ at_CM ++ at_CA.take 9, at_Valid at_XI (pw_P L xs) c) : at_Valid at_XI (pw_P L xs) at_q9 := at_chk_ok at_XI_XX (fun m h => by have := h.h40; omega) (List.forall_mem_cons.mpr ⟨h _ (at_pm (i := 22) (by decide) rfl), (fun c hc => by cases hc)⟩) lk_t9
theorem lk_v10 (h : ∀ c ∈ at_CM ++ at_CA.take 10, at_Valid at_XI (pw_P L xs) c) : at_Valid at_XI (pw_P L xs) at_q10 := at_chk_ok at_XI_XX (fun m h => by have := h.h40; omega) (List.forall_mem_cons.mpr ⟨h _ (at_pm (i := 21) (by decide) rfl), (List.forall_mem_cons.mpr ⟨h _ (at_pm (i := 23) (by decide) rfl), (fun c hc => by cases hc)⟩)⟩) lk_t10
theorem lk_v11 (_h : ∀ c ∈ at_CM ++ at_CA.take 11, at_Valid at_XI (pw_P L xs) c) : at_Valid at_XI (pw_P L xs) at_q11 := at_chk_ok at_XI_XX (fun m h => by have := h.h40; omega) (fun c hc => by cases hc) lk_t11
theorem lk_v12 (h : ∀ c ∈ at_CM ++ at_CA.take 12, at_Valid at_XI (pw_P L xs) c) : at_Valid at_XI (pw_P L xs) at_q12 := at_chk_ok at_XI_XX (fun m h => by have := h.h40; omega) (List.forall_mem_cons.mpr ⟨h _ (at_pm (i := 25) (by decide) rfl), (fun c hc => by cases hc)⟩) lk_t12
theorem lk_v13 (h : ∀ c ∈ at_CM ++ at_CA.take 13, at_Valid at_XI (pw_P L xs) c) : at_Valid at_XI (pw_P L xs) at_q13 := at_chk_ok at_XI_XX (fun m h => by have := h.h40; omega) (List.forall_mem_cons.mpr ⟨h _ (at_pm (i := 26) (by decide) rfl), (fun c hc => by cases hc)⟩) lk_t13
theorem lk_v14 (h : ∀ c ∈ at_CM ++ at_CA.take 14, at_Valid at_XI (pw_P L xs) c) : at_Valid at_XI (pw_P L xs) at_q14 := at_chk_ok at_XI_XX (fun m h => by have := h.h40; omega) (List.forall_mem_cons.mpr ⟨h _ (at_pm (i := 26) (by decide) rfl), (List.forall_mem_cons.mpr ⟨h _ (at_pm (i := 27) (by decide) rfl), (fun c hc => by cases hc)⟩)⟩) lk_t14
theorem lk_v15 (h : ∀ c ∈ at_CM ++ at_CA.take 15, at_Valid at_XI (pw_P L xs) c) : at_Valid at_XI (pw_P L xs) at_q15 := at_chk_ok at_XI_XX (fun m h => by have := h.h40; omega) (List.forall_mem_cons.mpr ⟨h _ (at_pm (i := 23) (by decide) rfl), (List.forall_mem_cons.mpr ⟨h _ (at_pm (i := 26) (by decide) rfl), (List.forall_mem_cons.mpr ⟨h _ (at_pm (i := 27) (by decide) rfl), (List.forall_mem_cons.mpr ⟨h _ (at_pm (i := 28) (by decide) rfl), (fun c hc => by cases hc)⟩)⟩)⟩)⟩) lk_t15
theorem lk_v16 (_h : ∀ c ∈ at_CM ++ at_CA.take 16, at_Valid at_XI (pw_P L xs) c) : at_Valid at_XI (pw_P L xs) at_q16 := at_chk_ok at_XI_XX (fun m h => by have := h.h40; omega) (fun c hc => by cases hc) lk_t16
theorem lk_v17 (h : ∀ c ∈ at_CM ++ at_CA.take 17, at_Valid at_XI (pw_P L xs) c) : at_Valid at_XI (pw_P L xs) at_q17 := at_chk_ok at_XI_XX (fun m h => by have := h.h40; omega) (List.forall_mem_cons.mpr ⟨h _ (at_pm (i := 15) (by decide) rfl), (List.forall_mem_cons.mpr ⟨h _ (at_pm (i := 30) (by decide) rfl), (fun c hc => by cases hc)⟩)⟩) lk_t17
theorem lk_v18 (h : ∀ c ∈ at_CM ++ at_CA.take 18, at_Valid at_XI (pw_P L xs) c) : at_Valid at_XI (pw_P L xs) at_q18 := at_chk_ok at_XI_XX (fun m h => by have := h.h40; omega) (List.forall_mem_cons.mpr ⟨h _ (at_pm (i := 31) (by decide) rfl), (fun c hc => by cases hc)⟩) lk_t18
theorem lk_v19 (h : ∀ c ∈ at_CM ++ at_CA.take 19, at_Valid at_XI (pw_P L xs) c) : at_Valid at_XI (pw_P L xs) at_q19 := at_chk_ok at_XI_XX (fun m h => by have := h.h40; omega) (List.forall_mem_cons.mpr ⟨h _ (at_pm (i := 15) (by decide) rfl), (List.forall_mem_cons.mpr ⟨h _ (at_pm (i := 30) (by decide) rfl), (fun c hc => by cases hc)⟩)⟩) lk_t19
theorem lk_v20 (_h : ∀ c ∈ at_CM ++ at_CA.take 20, at_Valid at_XI (pw_P L xs) c) : at_Valid at_XI (pw_P L xs) at_q20 := at_chk_ok at_XI_XX (fun m h => by have := h.h40; omega) (fun c hc => by cases hc) lk_t20
theorem lk_v21 (h : ∀ c ∈ at_CM ++ at_CA.take 21, at_Valid at_XI (pw_P L xs) c) : at_Valid at_XI (pw_P L xs) at_q21 := at_chk_ok at_XI_XX (fun m h => by have := h.h40; omega) (List.forall_mem_cons.mpr ⟨h _ (at_pm (i := 15) (by decide) rfl), (List.forall_mem_cons.mpr ⟨h _ (at_pm (i := 30) (by decide) rfl), (fun c hc => by cases hc)⟩)⟩) lk_t21
theorem lk_v22 (_h : ∀ c ∈ at_CM ++ at_CA.take 22, at_Valid at_XI (pw_P L xs) c) : at_Valid at_XI (pw_P L xs) at_q22 := at_chk_ok at_XI_XX (fun m h => by have := h.h40; omega) (fun c hc => by cases hc) lk_t22
theorem lk_v23 (h : ∀ c ∈ at_CM ++ at_CA.take 23, at_Valid at_XI (pw_P L xs) c) : at_Valid at_XI (pw_P L xs) at_q23 := at_chk_ok at_XI_XX (fun m h => by have := h.h40; omega) (List.forall_mem_cons.mpr ⟨h _ (at_pm (i := 34) (by decide) rfl), (List.forall_mem_cons.mpr ⟨h _ (at_pm (i := 35) (by decide) rfl), (List.forall_mem_cons.mpr ⟨h _ (at_pm (i := 36) (by decide) rfl), (fun c hc => by cases hc)⟩)⟩)⟩) lk_t23
theorem lk_v24 (h : ∀ c ∈ at_CM ++ at_CA.take 24, at_Valid at_XI (pw_P L xs) c) : at_Valid at_XI (pw_P L xs) at_q24 := at_chk_ok at_XI_XX (fun m h => by have := h.h40; omega) (List.forall_mem_cons.mpr ⟨h _ (at_pm (i := 33) (by decide) rfl), (List.forall_mem_cons.mpr ⟨h _ (at_pm (i := 37) (by decide) rfl), (fun c hc => by cases hc)⟩)⟩) lk_t24
theorem lk_v25 (_h : ∀ c ∈ at_CM ++ at_CA.take 25, at_Valid at_XI (pw_P L xs) c) : at_Valid at_XI (pw_P L xs) at_q25 := at_chk_ok at_XI_XX (fun m h => by have := h.h40; omega) (fun c hc => by cases hc) lk_t25
theorem lk_v26 (_h : ∀ c ∈ at_CM ++ at_CA.take 26, at_Valid at_XI (pw_P L xs) c) : at_Valid at_XI (pw_P L xs) at_q26 := at_chk_ok at_XI_XX (fun m h => by have := h.h40; omega) (fun c hc => by cases hc) lk_t26
theorem lk_v27 (_h : ∀ c ∈ at_CM ++ at_CA.take 27, at_Valid at_XI (pw_P L xs) c) : at_Valid at_XI (pw_P L xs) at_q27 := at_chk_ok at_XI_XX (fun m h => by have := h.h40; omega) (fun c hc => by cases hc) lk_t27
theorem lk_v28 (h : ∀ c ∈ at_CM ++ at_CA.take 28, at_Valid at_XI (pw_P L xs) c) : at_Valid at_XI (pw_P L xs) at_q28 := at_chk_ok at_XI_XX (fun m h => by have := h.h40; omega) (List.forall_mem_cons.mpr ⟨h _ (at_pm (i := 30) (by decide) rfl), (List.forall_mem_cons.mpr ⟨h _ (at_pm (i := 41) (by decide) rfl), (fun c hc => by cases hc)⟩)⟩) lk_t28
theorem lk_v29 (h : ∀ c ∈ at_CM ++ at_CA.take 29, at_Valid at_XI (pw_P L xs) c) : at_Valid at_XI (pw_P L xs) at_q29 := at_chk_ok at_XI_XX (fun m h => by have := h.h40; omega) (List.forall_mem_cons.mpr ⟨h _ (at_pm (i := 21) (by decide) rfl), (List.forall_mem_cons.mpr ⟨h _ (at_pm (i := 23) (by decide) rfl), (List.forall_mem_cons.mpr ⟨h _ (at_pm (i := 39) (by decide) rfl), (List.forall_mem_cons.mpr ⟨h _ (at_pm (i := 40) (by decide) rfl), (List.forall_mem_cons.mpr ⟨h _ (at_pm (i := 42) (by decide) rfl), (fun c hc => by cases hc)⟩)⟩)⟩)⟩)⟩) lk_t29
theorem lk_v30 (_h : ∀ c ∈ at_CM ++ at_CA.take 30, at_Valid at_XI (pw_P L xs) c) : at_Valid at_XI (pw_P L xs) at_q30 := at_chk_ok at_XI_XX (fun m h => by have := h.h40; omega) (fun c hc => by cases hc) lk_t30
theorem lk_v31 (_h : ∀ c ∈ at_CM ++ at_CA.take 31, at_Valid at_XI (pw_P L xs) c) : at_Valid at_XI (pw_P L xs) at_q31 := at_chk_ok at_XI_XX (fun m h => by have := h.h40; omega) (fun c hc => by cases hc) lk_t31
theorem lk_v32 (_h : ∀ c ∈ at_CM ++ at_CA.take 32, at_Valid at_XI (pw_P L xs) c) : at_Valid at_XI (pw_P L xs) at_q32 := at_chk_ok at_XI_XX (fun m h => by have := h.h40; omega) (fun c hc => by cases hc) lk_t32
theorem lk_v33 (_h : ∀ c ∈ at_CM ++ at_CA.take 33, at_Valid at_XI (pw_P L xs) c) : at_Valid at_XI (pw_P L xs) at_q33 := at_chk_ok at_XI_XX (fun m h => by have := h.h40; omega) (fun c hc => by cases hc) lk_t33
theorem lk_v34 (_h : ∀ c ∈ at_CM ++ at_CA.take 34, at_Valid at_XI (pw_P L xs) c) : at_Valid at_XI (pw_P L xs) at_q34 := at_chk_ok at_XI_XX (fun m h => by have := h.h40; omega) (fun c hc => by cases hc) lk_t34
theorem lk_v35 (h : ∀ c ∈ at_CM ++ at_CA.take 35, at_Valid at_XI (pw_P L xs) c) : at_Valid at_XI (pw_P L xs) at_q35 := at_chk_ok at_XI_XX (fun m h => by have := h.h40; omega) (List.forall_mem_cons.mpr ⟨h _ (at_pm (i := 22) (by decide) rfl), (List.forall_mem_cons.mpr ⟨h _ (at_pm (i := 45) (by decide) rfl), (List.forall_mem_cons.mpr ⟨h _ (at_pm (i := 46) (by decide) rfl), (List.forall_mem_cons.mpr ⟨h _ (at_pm (i := 47) (by decide) rfl), (List.forall_mem_cons.mpr ⟨h _ (at_pm (i := 48) (by decide) rfl), (fun c hc => by cases hc)⟩)⟩)⟩)⟩)⟩) lk_t35
theorem lk_v36 (_h : ∀ c ∈ at_CM ++ at_CA.take 36, at_Valid at_XI (pw_P L xs) c) : at_Valid at_XI (pw_P L xs) at_q36 := at_chk_ok at_XI_XX (fun m h => by have := h.h40; omega) (fun c hc => by cases hc) lk_t36
theorem lk_v37 (_h : ∀ c ∈ at_CM ++ at_CA.take 37, at_Valid at_XI (pw_P L xs) c) : at_Valid at_XI (pw_P L xs) at_q37 := at_chk_ok at_XI_XX (fun m h => by have := h.h40; omega) (fun c hc => by cases hc) lk_t37
theorem lk_v38 (h : ∀ c ∈ at_CM ++ at_CA.take 38, at_Valid at_XI (pw_P L xs) c) : at_Valid at_XI (pw_P L xs) at_q38 := at_chk_ok at_XI_XX (fun m h => by have := h.h40; omega) (List.forall_mem_cons.mpr ⟨h _ (at_pm (i := 51) (by decide) rfl), (fun c hc => by cases hc)⟩) lk_t38
theorem lk_v39 (h : ∀ c ∈ at_CM ++ at_CA.take 39, at_Valid at_XI (pw_P L xs) c) : at_Valid at_XI (pw_P L xs) at_q39 := at_chk_ok at_XI_XX (fun m h => by have := h.h40; omega) (List.forall_mem_cons.mpr ⟨h _ (at_pm (i := 52) (by decide) rfl), (fun c hc => by cases hc)⟩) lk_t39
theorem lk_v40 (h : ∀ c ∈ at_CM ++ at_CA.take 40, at_Valid at_XI (pw_P L xs) c) : at_Valid at_XI (pw_P L xs) at_q40 := at_chk_ok at_XI_XX (fun m h => by have := h.h40; omega) (List.forall_mem_cons.mpr ⟨h _ (at_pm (i := 21) (by decide) rfl), (List.forall_mem_cons.mpr ⟨h _ (at_pm (i := 46) (by decide) rfl), (List.forall_mem_cons.mpr ⟨h _ (at_pm (i := 53) (by decide) rfl), (fun c hc => by cases hc)⟩)⟩)⟩) lk_t40
theorem lk_v41 (h : ∀ c ∈ at_CM ++ at_CA.take 41, at_Valid at_XI (pw_P L xs) c) : at_Valid at_XI (pw_P L xs) at_q41 := at_chk_ok at_XI_XX (fun m h => by have := h.h40; omega) (List.forall_mem_cons.mpr ⟨h _ (at_pm (i := 21) (by decide) rfl), (List.forall_mem_cons.mpr ⟨h _ (at_pm (i := 22) (by decide) rfl), (fun c hc => by cases hc)⟩)⟩) lk_t41
theorem lk_v42 (h : ∀ c ∈ at_CM ++ at_CA.take 42, at_Valid at_XI (pw_P L xs) c) : at_Valid at_XI (pw_P L xs) at_q42 := at_chk_ok at_XI_XX (fun m h => by have := h.h40; omega) (List.forall_mem_cons.mpr ⟨h _ (at_pm (i := 55) (by decide) rfl), (fun c hc => by cases hc)⟩) lk_t42
theorem lk_v43 (h : ∀ c ∈ at_CM ++ at_CA.take 43, at_Valid at_XI (pw_P L xs) c) : at_Valid at_XI (pw_P L xs) at_q43 := at_chk_ok at_XI_XX (fun m h => by have := h.h40; omega) (List.forall_mem_cons.mpr ⟨h _ (at_pm (i := 24) (by decide) rfl), (List.forall_mem_cons.mpr ⟨h _ (at_pm (i := 29) (by decide) rfl), (List.forall_mem_cons.mpr ⟨h _ (at_pm (i := 32) (by decide) rfl), (List.forall_mem_cons.mpr ⟨h _ (at_pm (i := 38) (by decide) rfl), (List.forall_mem_cons.mpr ⟨h _ (at_pm (i := 43) (by decide) rfl), (List.forall_mem_cons.mpr ⟨h _ (at_pm (i := 44) (by decide) rfl), (List.forall_mem_cons.mpr ⟨h _ (at_pm (i := 49) (by decide) rfl), (List.forall_mem_cons.mpr ⟨h _ (at_pm (i := 50) (by decide) rfl), (List.forall_mem_cons.mpr ⟨h _ (at_pm (i := 54) (by decide) rfl), (List.forall_mem_cons.mpr ⟨h _ (at_pm (i := 56) (by decide) rfl), (fun c hc => by cases hc)⟩)⟩)⟩)⟩)⟩)⟩)⟩)⟩)⟩)⟩) lk_t43
theorem lk_v44 (h : ∀ c ∈ at_CM ++ at_CA.take 44, at_Valid at_XI (pw_P L xs) c) : at_Valid at_XI (pw_P L xs) at_q44 := at_chk_ok at_XI_XX (fun m h => by have := h.h40; omega) (List.forall_mem_cons.mpr ⟨h _ (at_pm (i := 57) (by decide) rfl), (fun c hc => by cases hc)⟩) lk_t44
theorem lk_v45 (h : ∀ c ∈ at_CM ++ at_CA.take 45, at_Valid at_XI (pw_P L xs) c) : at_Valid at_XI (pw_P L xs) at_q45 := at_chk_ok at_XI_XX (fun m h => by have := h.h40; omega) (List.forall_mem_cons.mpr ⟨h _ (at_pm (i := 0) (by decide) rfl), (List.forall_mem_cons.mpr ⟨h _ (at_pm (i := 14) (by decide) rfl), (List.forall_mem_cons.mpr ⟨h _ (at_pm (i := 58) (by decide) rfl), (fun c hc => by cases hc)⟩)⟩)⟩) lk_t45
theorem lk_v46 (h : ∀ c ∈ at_CM ++ at_CA.take 46, at_Valid at_XI (pw_P L xs) c) : at_Valid at_XI (pw_P L xs) at_q46 := at_chk_ok at_XI_XX (fun m h => by have := h.h40; omega) (List.forall_mem_cons.mpr ⟨h _ (at_pm (i := 0) (by decide) rfl), (List.forall_mem_cons.mpr ⟨h _ (at_pm (i := 14) (by decide) rfl), (fun c hc => by cases hc)⟩)⟩) lk_t46
theorem lk_v47 (h : ∀ c ∈ at_CM ++ at_CA.take 47, at_Valid at_XI (pw_P L xs) c) : at_Valid at_XI (pw_P L xs) at_q47 := at_chk_ok at_XI_XX (fun m h => by have := h.h40; omega) (List.forall_mem_cons.mpr ⟨h _ (at_pm (i := 0) (by decide) rfl), (List.forall_mem_cons.mpr ⟨h _ (at_pm (i := 14) (by decide) rfl), (fun c hc => by cases hc)⟩)⟩) lk_t47
theorem lk_v48 (h : ∀ c ∈ at_CM ++ at_CA.take 48, at_Valid at_XI (pw_P L xs) c) : at_Valid at_XI (pw_P L xs) at_q48 := at_chk_ok at_XI_XX (fun m h => by have := h.h40; omega) (List.forall_mem_cons.mpr ⟨h _ (at_pm (i := 0) (by decide) rfl), (List.forall_mem_cons.mpr ⟨h _ (at_pm (i := 14) (by decide) rfl), (fun c hc => by cases hc)⟩)⟩) lk_t48
theorem lk_v49 (h : ∀ c ∈ at_CM ++ at_CA.take 49, at_Valid at_XI (pw_P L xs) c) : at_Valid at_XI (pw_P L xs) at_q49 := at_chk_ok at_XI_XX (fun m h => by have := h.h40; omega) (List.forall_mem_cons.mpr ⟨h _ (at_pm (i := 0) (by decide) rfl), (List.forall_mem_cons.mpr ⟨h _ (at_pm (i := 14) (by decide) rfl), (fun c hc => by cases hc)⟩)⟩) lk_t49
theorem lk_v50 (h : ∀ c ∈ at_CM ++ at_CA.take 50, at_Valid at_XI (pw_P L xs) c) : at_Valid at_XI (pw_P L xs) at_q50 := at_chk_ok at_XI_XX (fun m h => by have := h.h40; omega) (List.forall_mem_cons.mpr ⟨h _ (at_pm (i := 0) (by decide) rfl), (List.forall_mem_cons.mpr ⟨h _ (at_pm (i := 14) (by decide) rfl), (fun c hc => by cases hc)⟩)⟩) lk_t50
theorem lk_v51 (h : ∀ c ∈ at_CM ++ at_CA.take 51, at_Valid at_XI (pw_P L xs) c) : at_Valid at_XI (pw_P L xs) at_q51 := at_chk_ok at_XI_XX (fun m h => by have := h.h40; omega) (List.forall_mem_cons.mpr ⟨h _ (at_pm (i := 0) (by decide) rfl), (List.forall_mem_cons.mpr ⟨h _ (at_pm (i := 14) (by decide) rfl), (fun c hc => by cases hc)⟩)⟩) lk_t51
theorem lk_v52 (h : ∀ c ∈ at_CM ++ at_CA.take 52, at_Valid at_XI (pw_P L xs) c) : at_Valid at_XI (pw_P L xs) at_q52 := at_chk_ok at_XI_XX (fun m h => by have := h.h40; omega) (List.forall_mem_cons.mpr ⟨h _ (at_pm (i := 0) (by decide) rfl), (List.forall_mem_cons.mpr ⟨h _ (at_pm (i := 14) (by decide) rfl), (fun c hc => by cases hc)⟩)⟩) lk_t52
theorem lk_v53 (_h : ∀ c ∈ at_CM ++ at_CA.take 53, at_Valid at_XI (pw_P L xs) c) : at_Valid at_XI (pw_P L xs) at_q53 := at_chk_ok at_XI_XX (fun m h => by have := h.h40; omega) (fun c hc => by cases hc) lk_t53
theorem lk_v54 (h : ∀ c ∈ at_CM ++ at_CA.take 54, at_Valid at_XI (pw_P L xs) c) : at_Valid at_XI (pw_P L xs) at_q54 := at_chk_ok at_XI_XX (fun m h => by have := h.h40; omega) (List.forall_mem_cons.mpr ⟨h _ (at_pm (i := 0) (by decide) rfl), (List.forall_mem_cons.mpr ⟨h _ (at_pm (i := 14) (by decide) rfl), (List.forall_mem_cons.mpr ⟨h _ (at_pm (i := 67) (by decide) rfl), (fun c hc => by cases hc)⟩)⟩)⟩) lk_t54
theorem lk_v55 (h : ∀ c ∈ at_CM ++ at_CA.take 55, at_Valid at_XI (pw_P L xs) c) : at_Valid at_XI (pw_P L xs) at_q55 := at_chk_ok at_XI_XX (fun m h => by have := h.h40; omega) (List.forall_mem_cons.mpr ⟨h _ (at_pm (i := 0) (by decide) rfl), (List.forall_mem_cons.mpr ⟨h _ (at_pm (i := 14) (by decide) rfl), (fun c hc => by cases hc)⟩)⟩) lk_t55
theorem lk_v56 (h : ∀ c ∈ at_CM ++ at_CA.take 56, at_Valid at_XI (pw_P L xs) c) : at_Valid at_XI (pw_P L xs) at_q56 := at_chk_ok at_XI_XX (fun m h => by have := h.h40; omega) (List.forall_mem_cons.mpr ⟨h _ (at_pm (i := 0) (by decide) rfl), (List.forall_mem_cons.mpr ⟨h _ (at_pm (i := 14) (by decide) rfl), (fun c hc => by cases hc)⟩)⟩) lk_t56
theorem lk_v57 (h : ∀ c ∈ at_CM ++ at_CA.take 57, at_Valid at_XI (pw_P L xs) c) : at_Valid at_XI (pw_P L xs) at_q57 := at_chk_ok at_XI_XX (fun m h => by have := h.h40; omega) (List.forall_mem_cons.mpr ⟨h _ (at_pm (i := 0) (by decide) rfl), (List.forall_mem_cons.mpr ⟨h _ (at_pm (i := 14) (by decide) rfl), (fun c hc => by cases hc)⟩)⟩) lk_t57
theorem lk_v58 (h : ∀ c ∈ at_CM ++ at_CA.take 58, at_Valid at_XI (pw_P L xs) c) : at_Valid at_XI (pw_P L xs) at_q58 := at_chk_ok at_XI_XX (fun m h => by have := h.h40; omega) (List.forall_mem_cons.mpr ⟨h _ (at_pm (i := 0) (by decide) rfl), (List.forall_mem_cons.mpr ⟨h _ (at_pm (i := 14) (by decide) rfl), (fun c hc => by cases hc)⟩)⟩) lk_t58
theorem lk_v59 (_h : ∀ c ∈ at_CM ++ at_CA.take 59, at_Valid at_XI (pw_P L xs) c) : at_Valid at_XI (pw_P L xs) at_q59 := at_chk_ok at_XI_XX (fun m h => by have := h.h40; omega) (fun c hc => by cases hc) lk_t59
theorem lk_v60 (h : ∀ c ∈ at_CM ++ at_CA.take 60, at_Valid at_XI (pw_P L xs) c) : at_Valid at_XI (pw_P L xs) at_q60 := at_chk_ok at_XI_XX (fun m h => by have := h.h40; omega) (List.forall_mem_cons.mpr ⟨h _ (at_pm (i := 57) (by decide) rfl), (fun c hc => by cases hc)⟩) lk_t60
theorem lk_v61 (h : ∀ c ∈ at_CM ++ at_CA.take 61, at_Valid at_XI (pw_P L xs) c) : at_Valid at_XI (pw_P L xs) at_q61 := at_chk_ok at_XI_XX (fun m h => by have := h.h40; omega) (List.forall_mem_cons.mpr ⟨h _ (at_pm (i := 0) (by decide) rfl), (List.forall_mem_cons.mpr ⟨h _ (at_pm (i := 14) (by decide) rfl), (List.forall_mem_cons.mpr ⟨h _ (at_pm (i := 73) (by decide) rfl), (List.forall_mem_cons.mpr ⟨h _ (at_pm (i := 74) (by decide) rfl), (fun c hc => by cases hc)⟩)⟩)⟩)⟩) lk_t61
theorem lk_v62 (_h : ∀ c ∈ at_CM ++ at_CA.take 62, at_Valid at_XI (pw_P L xs) c) : at_Valid at_XI (pw_P L xs) at_q62 := at_chk_ok at_XI_XX (fun m h => by have := h.h40; omega) (fun c hc => by cases hc) lk_t62
theorem lk_v63 (h : ∀ c ∈ at_CM ++ at_CA.take 63, at_Valid at_XI (pw_P L xs) c) : at_Valid at_XI (pw_P L xs) at_q63 := at_chk_ok at_XI_XX (fun m h => by have := h.h40; omega) (List.forall_mem_cons.mpr ⟨h _ (at_pm (i := 0) (by decide) rfl), (List.forall_mem_cons.mpr ⟨h _ (at_pm (i := 76) (by decide) rfl), (fun c hc => by cases hc)⟩)⟩) lk_t63
theorem lk_v64 (_h : ∀ c ∈ at_CM ++ at_CA.take 64, at_Valid at_XI (pw_P L xs) c) : at_Valid at_XI (pw_P L xs) at_q64 := at_chk_ok at_XI_XX (fun m h => by have := h.h40; omega) (fun c hc => by cases hc) lk_t64
theorem lk_v65 (h : ∀ c ∈ at_CM ++ at_CA.take 65, at_Valid at_XI (pw_P L xs) c) : at_Valid at_XI (pw_P L xs) at_q65 := at_chk_ok at_XI_XX (fun m h => by have := h.h40; omega) (List.forall_mem_cons.mpr ⟨h _ (at_pm (i := 0) (by decide) rfl), (List.forall_mem_cons.mpr ⟨h _ (at_pm (i := 78) (by decide) rfl), (fun c hc => by cases hc)⟩)⟩) lk_t65
theorem lk_v66 (h : ∀ c ∈ at_CM ++ at_CA.take 66, at_Valid at_XI (pw_P L xs) c) : at_Valid at_XI (pw_P L xs) at_q66 := at_chk_ok at_XI_XX (fun m h => by have := h.h40; omega) (List.forall_mem_cons.mpr ⟨h _ (at_pm (i := 14) (by decide) rfl), (List.forall_mem_cons.mpr ⟨h _ (at_pm (i := 79) (by decide) rfl), (fun c hc => by cases hc)⟩)⟩) lk_t66
theorem lk_v67 (h : ∀ c ∈ at_CM ++ at_CA.take 67, at_Valid at_XI (pw_P L xs) c) : at_Valid at_XI (pw_P L xs) at_q67 := at_chk_ok at_XI_XX (fun m h => by have := h.h40; omega) (List.forall_mem_cons.mpr ⟨h _ (at_pm (i := 76) (by decide) rfl), (List.forall_mem_cons.mpr ⟨h _ (at_pm (i := 79) (by decide) rfl), (fun c hc => by cases hc)⟩)⟩) lk_t67
theorem lk_v68 (h : ∀ c ∈ at_CM ++ at_CA.take 68, at_Valid at_XI (pw_P L xs) c) : at_Valid at_XI (pw_P L xs) at_q68 := at_chk_ok at_XI_XX (fun m h => by have := h.h40; omega) (List.forall_mem_cons.mpr ⟨h _ (at_pm (i := 55) (by decide) rfl), (fun c hc => by cases hc)⟩) lk_t68
theorem lk_v69 (_h : ∀ c ∈ at_CM ++ at_CA.take 69, at_Valid at_XI (pw_P L xs) c) : at_Valid at_XI (pw_P L xs) at_q69 := at_chk_ok at_XI_XX (fun m h => by have := h.h40; omega) (fun c hc => by cases hc) lk_t69
theorem lk_v70 (_h : ∀ c ∈ at_CM ++ at_CA.take 70, at_Valid at_XI (pw_P L xs) c) : at_Valid at_XI (pw_P L xs) at_q70 := at_chk_ok at_XI_XX (fun m h => by have := h.h40; omega) (fun c hc => by cases hc) lk_t70
theorem lk_v71 (_h : ∀ c ∈ at_CM ++ at_CA.take 71, at_Valid at_XI (pw_P L xs) c) : at_Valid at_XI (pw_P L xs) at_q71 := at_chk_ok at_XI_XX (fun m h => by have := h.h40; omega) (fun c hc => by cases hc) lk_t71
theorem lk_v72 (h : ∀ c ∈ at_CM ++ at_CA.take 72, at_Valid at_XI (pw_P L xs) c) : at_Valid at_XI (pw_P L xs) at_q72 := at_chk_ok at_XI_XX (fun m h => by have := h.h40; omega) (List.forall_mem_cons.mpr ⟨h _ (at_pm (i := 46) (by decide) rfl), (fun c hc => by cases hc)⟩) lk_t72
theorem lk_v73 (h : ∀ c ∈ at_CM ++ at_CA.take 73, at_Valid at_XI (pw_P L xs) c) : at_Valid at_XI (pw_P L xs) at_q73 := at_chk_ok at_XI_XX (fun m h => by have := h.h40; omega) (List.forall_mem_cons.mpr ⟨h _ (at_pm (i := 86) (by decide) rfl), (fun c hc => by cases hc)⟩) lk_t73
theorem lk_v74 (_h : ∀ c ∈ at_CM ++ at_CA.take 74, at_Valid at_XI (pw_P L xs) c) : at_Valid at_XI (pw_P L xs) at_q74 := at_chk_ok at_XI_XX (fun m h => by have := h.h40; omega) (fun c hc => by cases hc) lk_t74
theorem lk_v75 (_h : ∀ c ∈ at_CM ++ at_CA.take 75, at_Valid at_XI (pw_P L xs) c) : at_Valid at_XI (pw_P L xs) at_q75 := at_chk_ok at_XI_XX (fun m h => by have := h.h40; omega) (fun c hc => by cases hc) lk_t75
theorem lk_v76 (_h : ∀ c ∈ at_CM ++ at_CA.take 76, at_Valid at_XI (pw_P L xs) c) : at_Valid at_XI (pw_P L xs) at_q76 := at_chk_ok at_XI_XX (fun m h => by have := h.h40; omega) (fun c hc => by cases hc) lk_t76
theorem lk_v77 (_h : ∀ c ∈ at_CM ++ at_CA.take 77, at_Valid at_XI (pw_P L xs) c) : at_Valid at_XI (pw_P L xs) at_q77 := at_chk_ok at_XI_XX (fun m h => by have := h.h40; omega) (fun c hc => by cases hc) lk_t77
theorem lk_v78 (_h : ∀ c ∈ at_CM ++ at_CA.take 78, at_Valid at_XI (pw_P L xs) c) : at_Valid at_XI (pw_P L xs) at_q78 := at_chk_ok at_XI_XX (fun m h => by have := h.h40; omega) (fun c hc => by cases hc) lk_t78
theorem lk_v79 (h : ∀ c ∈ at_CM ++ at_CA.take 79, at_Valid at_XI (pw_P L xs) c) : at_Valid at_XI (pw_P L xs) at_q79 := at_chk_ok at_XI_XX (fun m h => by have := h.h40; omega) (List.forall_mem_cons.mpr ⟨h _ (at_pm (i := 46) (by decide) rfl), (List.forall_mem_cons.mpr ⟨h _ (at_pm (i := 92) (by decide) rfl), (fun c hc => by cases hc)⟩)⟩) lk_t79
theorem lk_v80 (h : ∀ c ∈ at_CM ++ at_CA.take 80, at_Valid at_XI (pw_P L xs) c) : at_Valid at_XI (pw_P L xs) at_q80 := at_chk_ok at_XI_XX (fun m h => by have := h.h40; omega) (List.forall_mem_cons.mpr ⟨h _ (at_pm (i := 34) (by decide) rfl), (fun c hc => by cases hc)⟩) lk_t80
theorem lk_v81 (_h : ∀ c ∈ at_CM ++ at_CA.take 81, at_Valid at_XI (pw_P L xs) c) : at_Valid at_XI (pw_P L xs) at_q81 := at_chk_ok at_XI_XX (fun m h => by have := h.h40; omega) (fun c hc => by cases hc) lk_t81
theorem lk_v82 (_h : ∀ c ∈ at_CM ++ at_CA.take 82, at_Valid at_XI (pw_P L xs) c) : at_Valid at_XI (pw_P L xs) at_q82 := at_chk_ok at_XI_XX (fun m h => by have := h.h40; omega) (fun c hc => by cases hc) lk_t82
theorem lk_v83 (_h : ∀ c ∈ at_CM ++ at_CA.take 83, at_Valid at_XI (pw_P L xs) c) : at_Valid at_XI (pw_P L xs) at_q83 := at_chk_ok at_XI_XX (fun m h => by have := h.h40; omega) (fun c hc => by cases hc) lk_t83
theorem lk_v84 (_h : ∀ c ∈ at_CM ++ at_CA.take 84, at_Valid at_XI (pw_P L xs) c) : at_Valid at_XI (pw_P L xs) at_q84 := at_chk_ok at_XI_XX (fun m h => by have := h.h40; omega) (fun c hc => by cases hc) lk_t84
theorem lk_v85 (h : ∀ c ∈ at_CM ++ at_CA.take 85, at_Valid at_XI (pw_P L xs) c) : at_Valid at_XI (pw_P L xs) at_q85 := at_chk_ok at_XI_XX (fun m h => by have := h.h40; omega) (List.forall_mem_cons.mpr ⟨h _ (at_pm (i := 98) (by decide) rfl), (fun c hc => by cases hc)⟩) lk_t85
theorem lk_v86 (h : ∀ c ∈ at_CM ++ at_CA.take 86, at_Valid at_XI (pw_P L xs) c) : at_Valid at_XI (pw_P L xs) at_q86 := at_chk_ok at_XI_XX (fun m h => by have := h.h40; omega) (List.forall_mem_cons.mpr ⟨h _ (at_pm (i := 99) (by decide) rfl), (fun c hc => by cases hc)⟩) lk_t86
theorem lk_v87 (h : ∀ c ∈ at_CM ++ at_CA.take 87, at_Valid at_XI (pw_P L xs) c) : at_Valid at_XI (pw_P L xs) at_q87 := at_chk_ok at_XI_XX (fun m h => by have := h.h40; omega) (List.forall_mem_cons.mpr ⟨h _ (at_pm (i := 99) (by decide) rfl), (fun c hc => by cases hc)⟩) lk_t87
theorem lk_v88 (h : ∀ c ∈ at_CM ++ at_CA.take 88, at_Valid at_XI (pw_P L xs) c) : at_Valid at_XI (pw_P L xs) at_q88 := at_chk_ok at_XI_XX (fun m h => by have := h.h40; omega) (List.forall_mem_cons.mpr ⟨h _ (at_pm (i := 99) (by decide) rfl), (fun c hc => by cases hc)⟩) lk_t88
theorem lk_v89 (_h : ∀ c ∈ at_CM ++ at_CA.take 89, at_Valid at_XI (pw_P L xs) c) : at_Valid at_XI (pw_P L xs) at_q89 := at_chk_ok at_XI_XX (fun m h => by have := h.h40; omega) (fun c hc => by cases hc) lk_t89
theorem lk_v90 (_h : ∀ c ∈ at_CM ++ at_CA.take 90, at_Valid at_XI (pw_P L xs) c) : at_Valid at_XI (pw_P L xs) at_q90 := at_chk_ok at_XI_XX (fun m h => by have := h.h40; omega) (fun c hc => by cases hc) lk_t90
theorem lk_v91 (h : ∀ c ∈ at_CM ++ at_CA.take 91, at_Valid at_XI (pw_P L xs) c) : at_Valid at_XI (pw_P L xs) at_q91 := at_chk_ok at_XI_XX (fun m h => by have := h.h40; omega) (List.forall_mem_cons.mpr ⟨h _ (at_pm (i := 103) (by decide) rfl), (List.forall_mem_cons.mpr ⟨h _ (at_pm (i := 104) (by decide) rfl), (fun c hc => by cases hc)⟩)⟩) lk_t91
theorem lk_v92 (h : ∀ c ∈ at_CM ++ at_CA.take 92, at_Valid at_XI (pw_P L xs) c) : at_Valid at_XI (pw_P L xs) at_q92 := at_chk_ok at_XI_XX (fun m h => by have := h.h40; omega) (List.forall_mem_cons.mpr ⟨h _ (at_pm (i := 103) (by decide) rfl), (List.forall_mem_cons.mpr ⟨h _ (at_pm (i := 104) (by decide) rfl), (fun c hc => by cases hc)⟩)⟩) lk_t92
theorem lk_v93 (_h : ∀ c ∈ at_CM ++ at_CA.take 93, at_Valid at_XI (pw_P L xs) c) : at_Valid at_XI (pw_P L xs) at_q93 := at_chk_ok at_XI_XX (fun m h => by have := h.h40; omega) (fun c hc => by cases hc) lk_t93
theorem lk_v94 (h : ∀ c ∈ at_CM ++ at_CA.take 94, at_Valid at_XI (pw_P L xs) c) : at_Valid at_XI (pw_P L xs) at_q94 := at_chk_ok at_XI_XX (fun m h => by have := h.h40; omega) (List.forall_mem_cons.mpr ⟨h _ (at_pm (i := 107) (by decide) rfl), (fun c hc => by cases hc)⟩) lk_t94
theorem lk_v95 (_h : ∀ c ∈ at_CM ++ at_CA.take 95, at_Valid at_XI (pw_P L xs) c) : at_Valid at_XI (pw_P L xs) at_q95 := at_chk_ok at_XI_XX (fun m h => by have := h.h40; omega) (fun c hc => by cases hc) lk_t95
theorem lk_v96 (h : ∀ c ∈ at_CM ++ at_CA.take 96, at_Valid at_XI (pw_P L xs) c) : at_Valid at_XI (pw_P L xs) at_q96 := at_chk_ok at_XI_XX (fun m h => by have := h.h40; omega) (List.forall_mem_cons.mpr ⟨h _ (at_pm (i := 109) (by decide) rfl), (fun c hc => by cases hc)⟩) lk_t96
theorem lk_v97 (h : ∀ c ∈ at_CM ++ at_CA.take 97, at_Valid at_XI (pw_P L xs) c) : at_Valid at_XI (pw_P L xs) at_q97 := at_chk_ok at_XI_XX (fun m h => by have := h.h40; omega) (List.forall_mem_cons.mpr ⟨h _ (at_pm (i := 110) (by decide) rfl), (fun c hc => by cases hc)⟩) lk_t97
theorem lk_v98 (_h : ∀ c ∈ at_CM ++ at_CA.take 98, at_Valid at_XI (pw_P L xs) c) : at_Valid at_XI (pw_P L xs) at_q98 := at_chk_ok at_XI_XX (fun m h => by have := h.h40; omega) (fun c hc => by cases hc) lk_t98
theorem lk_v99 (_h : ∀ c ∈ at_CM ++ at_CA.take 99, at_Valid at_XI (pw_P L xs) c) : at_Valid at_XI (pw_P L xs) at_q99 := at_chk_ok at_XI_XX (fun m h => by have := h.h40; omega) (fun c hc => by cases hc) lk_t99
theorem lk_v100 (_h : ∀ c ∈ at_CM ++ at_CA.take 100, at_Valid at_XI (pw_P L xs) c) : at_Valid at_XI (pw_P L xs) at_q100 := at_chk_ok at_XI_XX (fun m h => by have := h.h40; omega) (fun c hc => by cases hc) lk_t100
theorem lk_v101 (_h : ∀ c ∈ at_CM ++ at_CA.take 101, at_Valid at_XI (pw_P L xs) c) : at_Valid at_XI (pw_P L xs) at_q101 := at_chk_ok at_XI_XX (fun m h => by have := h.h40; omega) (fun c hc => by cases hc) lk_t101
theorem lk_v102 (h : ∀ c ∈ at_CM ++ at_CA.take 102, at_Valid at_XI (pw_P L xs) c) : at_Valid at_XI (pw_P L xs) at_q102 := at_chk_ok at_XI_XX (fun m h => by have := h.h40; omega) (List.forall_mem_cons.mpr ⟨h _ (at_pm (i := 41) (by decide) rfl), (fun c hc => by cases hc)⟩) lk_t102
theorem lk_v103 (h : ∀ c ∈ at_CM ++ at_CA.take 103, at_Valid at_XI (pw_P L xs) c) : at_Valid at_XI (pw_P L xs) at_q103 := at_chk_ok at_XI_XX (fun m h => by have := h.h40; omega) (List.forall_mem_cons.mpr ⟨h _ (at_pm (i := 26) (by decide) rfl), (List.forall_mem_cons.mpr ⟨h _ (at_pm (i := 27) (by decide) rfl), (fun c hc => by cases hc)⟩)⟩) lk_t103
theorem lk_v104 (h : ∀ c ∈ at_CM ++ at_CA.take 104, at_Valid at_XI (pw_P L xs) c) : at_Valid at_XI (pw_P L xs) at_q104 := at_chk_ok at_XI_XX (fun m h => by have := h.h40; omega) (List.forall_mem_cons.mpr ⟨h _ (at_pm (i := 27) (by decide) rfl), (fun c hc => by cases hc)⟩) lk_t104
theorem lk_v105 (h : ∀ c ∈ at_CM ++ at_CA.take 105, at_Valid at_XI (pw_P L xs) c) : at_Valid at_XI (pw_P L xs) at_q105 := at_chk_ok at_XI_XX (fun m h => by have := h.h40; omega) (List.forall_mem_cons.mpr ⟨h _ (at_pm (i := 46) (by decide) rfl), (fun c hc => by cases hc)⟩) lk_t105
theorem lk_v106 (_h : ∀ c ∈ at_CM ++ at_CA.take 106, at_Valid at_XI (pw_P L xs) c) : at_Valid at_XI (pw_P L xs) at_q106 := at_chk_ok at_XI_XX (fun m h => by have := h.h40; omega) (fun c hc => by cases hc) lk_t106
theorem lk_v107 (_h : ∀ c ∈ at_CM ++ at_CA.take 107, at_Valid at_XI (pw_P L xs) c) : at_Valid at_XI (pw_P L xs) at_q107 := at_chk_ok at_XI_XX (fun m h => by have := h.h40; omega) (fun c hc => by cases hc) lk_t107
theorem lk_v108 (_h : ∀ c ∈ at_CM ++ at_CA.take 108, at_Valid at_XI (pw_P L xs) c) : at_Valid at_XI (pw_P L xs) at_q108 := at_chk_ok at_XI_XX (fun m h => by have := h.h40; omega) (fun c hc => by cases hc) lk_t108
theorem lk_v109 (_h : ∀ c ∈ at_CM ++ at_CA.take 109, at_Valid at_XI (pw_P L xs) c) : at_Valid at_XI (pw_P L xs) at_q109 := at_chk_ok at_XI_XX (fun m h => by have := h.h40; omega) (fun c hc => by cases hc) lk_t109
theorem lk_v110 (_h : ∀ c ∈ at_CM ++ at_CA.take 110, at_Valid at_XI (pw_P L xs) c) : at_Valid at_XI (pw_P L xs) at_q110 := at_chk_ok at_XI_XX (fun m h => by have := h.h40; omega) (fun c hc => by cases hc) lk_t110
theorem lk_v111 (_h : ∀ c ∈ at_CM ++ at_CA.take 111, at_Valid at_XI (pw_P L xs) c) : at_Valid at_XI (pw_P L xs) at_q111 := at_chk_ok at_XI_XX (fun m h => by have := h.h40; omega) (fun c hc => by cases hc) lk_t111
theorem lk_v112 (_h : ∀ c ∈ at_CM ++ at_CA.take 112, at_Valid at_XI (pw_P L xs) c) : at_Valid at_XI (pw_P L xs) at_q112 := at_chk_ok at_XI_XX (fun m h => by have := h.h40; omega) (fun c hc => by cases hc) lk_t112
theorem lk_v113 (_h : ∀ c ∈ at_CM ++ at_CA.take 113, at_Valid at_XI (pw_P L xs) c) : at_Valid at_XI (pw_P L xs) at_q113 := at_chk_ok at_XI_XX (fun m h => by have := h.h40; omega) (fun c hc => by cases hc) lk_t113
theorem lk_v114 (_h : ∀ c ∈ at_CM ++ at_CA.take 114, at_Valid at_XI (pw_P L xs) c) : at_Valid at_XI (pw_P L xs) at_q114 := at_chk_ok at_XI_XX (fun m h => by have := h.h40; omega) (fun c hc => by cases hc) lk_t114
theorem lk_v115 (h : ∀ c ∈ at_CM ++ at_CA.take 115, at_Valid at_XI (pw_P L xs) c) : at_Valid at_XI (pw_P L xs) at_q115 := at_chk_ok at_XI_XX (fun m h => by have := h.h40; omega) (List.forall_mem_cons.mpr ⟨h _ (at_pm (i := 128) (by decide) rfl), (fun c hc => by cases hc)⟩) lk_t115
theorem lk_v116 (h : ∀ c ∈ at_CM ++ at_CA.take 116, at_Valid at_XI (pw_P L xs) c) : at_Valid at_XI (pw_P L xs) at_q116 := at_chk_ok at_XI_XX (fun m h => by have := h.h40; omega) (List.forall_mem_cons.mpr ⟨h _ (at_pm (i := 127) (by decide) rfl), (List.forall_mem_cons.mpr ⟨h _ (at_pm (i := 129) (by decide) rfl), (fun c hc => by cases hc)⟩)⟩) lk_t116
theorem lk_v117 (_h : ∀ c ∈ at_CM ++ at_CA.take 117, at_Valid at_XI (pw_P L xs) c) : at_Valid at_XI (pw_P L xs) at_q117 := at_chk_ok at_XI_XX (fun m h => by have := h.h40; omega) (fun c hc => by cases hc) lk_t117
theorem lk_v118 (h : ∀ c ∈ at_CM ++ at_CA.take 118, at_Valid at_XI (pw_P L xs) c) : at_Valid at_XI (pw_P L xs) at_q118 := at_chk_ok at_XI_XX (fun m h => by have := h.h40; omega) (List.forall_mem_cons.mpr ⟨h _ (at_pm (i := 131) (by decide) rfl), (fun c hc => by cases hc)⟩) lk_t118
theorem lk_v119 (h : ∀ c ∈ at_CM ++ at_CA.take 119, at_Valid at_XI (pw_P L xs) c) : at_Valid at_XI (pw_P L xs) at_q119 := at_chk_ok at_XI_XX (fun m h => by have := h.h40; omega) (List.forall_mem_cons.mpr ⟨h _ (at_pm (i := 132) (by decide) rfl), (fun c hc => by cases hc)⟩) lk_t119
theorem lk_v120 (h : ∀ c ∈ at_CM ++ at_CA.take 120, at_Valid at_XI (pw_P L xs) c) : at_Valid at_XI (pw_P L xs) at_q120 := at_chk_ok at_XI_XX (fun m h => by have := h.h40; omega) (List.forall_mem_cons.mpr ⟨h _ (at_pm (i := 132) (by decide) rfl), (List.forall_mem_cons.mpr ⟨h _ (at_pm (i := 133) (by decide) rfl), (fun c hc => by cases hc)⟩)⟩) lk_t120
theorem lk_v121 (h : ∀ c ∈ at_CM ++ at_CA.take 121, at_Valid at_XI (pw_P L xs) c) : at_Valid at_XI (pw_P L xs) at_q121 := at_chk_ok at_XI_XX (fun m h => by have := h.h40; omega) (List.forall_mem_cons.mpr ⟨h _ (at_pm (i := 129) (by decide) rfl), (List.forall_mem_cons.mpr ⟨h _ (at_pm (i := 132) (by decide) rfl), (List.forall_mem_cons.mpr ⟨h _ (at_pm (i := 133) (by decide) rfl), (List.forall_mem_cons.mpr ⟨h _ (at_pm (i := 134) (by decide) rfl), (fun c hc => by cases hc)⟩)⟩)⟩)⟩) lk_t121
theorem lk_v122 (_h : ∀ c ∈ at_CM ++ at_CA.take 122, at_Valid at_XI (pw_P L xs) c) : at_Valid at_XI (pw_P L xs) at_q122 := at_chk_ok at_XI_XX (fun m h => by have := h.h40; omega) (fun c hc => by cases hc) lk_t122
theorem lk_v123 (_h : ∀ c ∈ at_CM ++ at_CA.take 123, at_Valid at_XI (pw_P L xs) c) : at_Valid at_XI (pw_P L xs) at_q123 := at_chk_ok at_XI_XX (fun m h => by have := h.h40; omega) (fun c hc => by cases hc) lk_t123
theorem lk_v124 (h : ∀ c ∈ at_CM ++ at_CA.take 124, at_Valid at_XI (pw_P L xs) c) : at_Valid at_XI (pw_P L xs) at_q124 := at_chk_ok at_XI_XX (fun m h => by have := h.h40; omega) (List.forall_mem_cons.mpr ⟨h _ (at_pm (i := 136) (by decide) rfl), (List.forall_mem_cons.mpr ⟨h _ (at_pm (i := 137) (by decide) rfl), (fun c hc => by cases hc)⟩)⟩) lk_t124
theorem lk_v125 (h : ∀ c ∈ at_CM ++ at_CA.take 125, at_Valid at_XI (pw_P L xs) c) : at_Valid at_XI (pw_P L xs) at_q125 := at_chk_ok at_XI_XX (fun m h => by have := h.h40; omega) (List.forall_mem_cons.mpr ⟨h _ (at_pm (i := 138) (by decide) rfl), (fun c hc => by cases hc)⟩) lk_t125
theorem lk_v126 (h : ∀ c ∈ at_CM ++ at_CA.take 126, at_Valid at_XI (pw_P L xs) c) : at_Valid at_XI (pw_P L xs) at_q126 := at_chk_ok at_XI_XX (fun m h => by have := h.h40; omega) (List.forall_mem_cons.mpr ⟨h _ (at_pm (i := 136) (by decide) rfl), (List.forall_mem_cons.mpr ⟨h _ (at_pm (i := 137) (by decide) rfl), (fun c hc => by cases hc)⟩)⟩) lk_t126
theorem lk_v127 (_h : ∀ c ∈ at_CM ++ at_CA.take 127, at_Valid at_XI (pw_P L xs) c) : at_Valid at_XI (pw_P L xs) at_q127 := at_chk_ok at_XI_XX (fun m h => by have := h.h40; omega) (fun c hc => by cases hc) lk_t127
theorem lk_v128 (h : ∀ c ∈ at_CM ++ at_CA.take 128, at_Valid at_XI (pw_P L xs) c) : at_Valid at_XI (pw_P L xs) at_q128 := at_chk_ok at_XI_XX (fun m h => by have := h.h40; omega) (List.forall_mem_cons.mpr ⟨h _ (at_pm (i := 136) (by decide) rfl), (List.forall_mem_cons.mpr ⟨h _ (at_pm (i := 137) (by decide) rfl), (fun c hc => by cases hc)⟩)⟩) lk_t128
theorem lk_v129 (_h : ∀ c ∈ at_CM ++ at_CA.take 129, at_Valid at_XI (pw_P L xs) c) : at_Valid at_XI (pw_P L xs) at_q129 := at_chk_ok at_XI_XX (fun m h => by have := h.h40; omega) (fun c hc => by cases hc) lk_t129
theorem lk_v130 (h : ∀ c ∈ at_CM ++ at_CA.take 130, at_Valid at_XI (pw_P L xs) c) : at_Valid at_XI (pw_P L xs) at_q130 := at_chk_ok at_XI_XX (fun m h => by have := h.h40; omega) (List.forall_mem_cons.mpr ⟨h _ (at_pm (i := 141) (by decide) rfl), (List.forall_mem_cons.mpr ⟨h _ (at_pm (i := 142) (by decide) rfl), (List.forall_mem_cons.mpr ⟨h _ (at_pm (i := 143) (by decide) rfl), (fun c hc => by cases hc)⟩)⟩)⟩) lk_t130
theorem lk_v131 (h : ∀ c ∈ at_CM ++ at_CA.take 131, at_Valid at_XI (pw_P L xs) c) : at_Valid at_XI (pw_P L xs) at_q131 := at_chk_ok at_XI_XX (fun m h => by have := h.h40; omega) (List.forall_mem_cons.mpr ⟨h _ (at_pm (i := 140) (by decide) rfl), (List.forall_mem_cons.mpr ⟨h _ (at_pm (i := 144) (by decide) rfl), (fun c hc => by cases hc)⟩)⟩) lk_t131
theorem lk_v132 (_h : ∀ c ∈ at_CM ++ at_CA.take 132, at_Valid at_XI (pw_P L xs) c) : at_Valid at_XI (pw_P L xs) at_q132 := at_chk_ok at_XI_XX (fun m h => by have := h.h40; omega) (fun c hc => by cases hc) lk_t132
theorem lk_v133 (_h : ∀ c ∈ at_CM ++ at_CA.take 133, at_Valid at_XI (pw_P L xs) c) : at_Valid at_XI (pw_P L xs) at_q133 := at_chk_ok at_XI_XX (fun m h => by have := h.h40; omega) (fun c hc => by cases hc) lk_t133
theorem lk_v134 (h : ∀ c ∈ at_CM ++ at_CA.take 134, at_Valid at_XI (pw_P L xs) c) : at_Valid at_XI (pw_P L xs) at_q134 := at_chk_ok at_XI_XX (fun m h => by have := h.h40; omega) (List.forall_mem_cons.mpr ⟨h _ (at_pm (i := 41) (by decide) rfl), (List.forall_mem_cons.mpr ⟨h _ (at_pm (i := 136) (by decide) rfl), (fun c hc => by cases hc)⟩)⟩) lk_t134
theorem lk_v135 (h : ∀ c ∈ at_CM ++ at_CA.take 135, at_Valid at_XI (pw_P L xs) c) : at_Valid at_XI (pw_P L xs) at_q135 := at_chk_ok at_XI_XX (fun m h => by have := h.h40; omega) (List.forall_mem_cons.mpr ⟨h _ (at_pm (i := 127) (by decide) rfl), (List.forall_mem_cons.mpr ⟨h _ (at_pm (i := 129) (by decide) rfl), (List.forall_mem_cons.mpr ⟨h _ (at_pm (i := 146) (by decide) rfl), (List.forall_mem_cons.mpr ⟨h _ (at_pm (i := 147) (by decide) rfl), (List.forall_mem_cons.mpr ⟨h _ (at_pm (i := 148) (by decide) rfl), (fun c hc => by cases hc)⟩)⟩)⟩)⟩)⟩) lk_t135
theorem lk_v136 (_h : ∀ c ∈ at_CM ++ at_CA.take 136, at_Valid at_XI (pw_P L xs) c) : at_Valid at_XI (pw_P L xs) at_q136 := at_chk_ok at_XI_XX (fun m h => by have := h.h40; omega) (fun c hc => by cases hc) lk_t136
theorem lk_v137 (_h : ∀ c ∈ at_CM ++ at_CA.take 137, at_Valid at_XI (pw_P L xs) c) : at_Valid at_XI (pw_P L xs) at_q137 := at_chk_ok at_XI_XX (fun m h => by have := h.h40; omega) (fun c hc => by cases hc) lk_t137
theorem lk_v138 (_h : ∀ c ∈ at_CM ++ at_CA.take 138, at_Valid at_XI (pw_P L xs) c) : at_Valid at_XI (pw_P L xs) at_q138 := at_chk_ok at_XI_XX (fun m h => by have := h.h40; omega) (fun c hc => by cases hc) lk_t138
theorem lk_v139 (_h : ∀ c ∈ at_CM ++ at_CA.take 139, at_Valid at_XI (pw_P L xs) c) : at_Valid at_XI (pw_P L xs) at_q139 := at_chk_ok at_XI_XX (fun m h => by have := h.h40; omega) (fun c hc => by cases hc) lk_t139
theorem lk_v140 (_h : ∀ c ∈ at_CM ++ at_CA.take 140, at_Valid at_XI (pw_P L xs) c) : at_Valid at_XI (pw_P L xs) at_q140 := at_chk_ok at_XI_XX (fun m h => by have := h.h40; omega) (fun c hc => by cases hc) lk_t140
theorem lk_v141 (h : ∀ c ∈ at_CM ++ at_CA.take 141, at_Valid at_XI (pw_P L xs) c) : at_Valid at_XI (pw_P L xs) at_q141 := at_chk_ok at_XI_XX (fun m h => by have := h.h40; omega) (List.forall_mem_cons.mpr ⟨h _ (at_pm (i := 128) (by decide) rfl), (List.forall_mem_cons.mpr ⟨h _ (at_pm (i := 151) (by decide) rfl), (List.forall_mem_cons.mpr ⟨h _ (at_pm (i := 152) (by decide) rfl), (List.forall_mem_cons.mpr ⟨h _ (at_pm (i := 153) (by decide) rfl), (List.forall_mem_cons.mpr ⟨h _ (at_pm (i := 154) (by decide) rfl), (fun c hc => by cases hc)⟩)⟩)⟩)⟩)⟩) lk_t141
theorem lk_v142 (_h : ∀ c ∈ at_CM ++ at_CA.take 142, at_Valid at_XI (pw_P L xs) c) : at_Valid at_XI (pw_P L xs) at_q142 := at_chk_ok at_XI_XX (fun m h => by have := h.h40; omega) (fun c hc => by cases hc) lk_t142
theorem lk_v143 (_h : ∀ c ∈ at_CM ++ at_CA.take 143, at_Valid at_XI (pw_P L xs) c) : at_Valid at_XI (pw_P L xs) at_q143 := at_chk_ok at_XI_XX (fun m h => by have := h.h40; omega) (fun c hc => by cases hc) lk_t143
theorem lk_v144 (h : ∀ c ∈ at_CM ++ at_CA.take 144, at_Valid at_XI (pw_P L xs) c) : at_Valid at_XI (pw_P L xs) at_q144 := at_chk_ok at_XI_XX (fun m h => by have := h.h40; omega) (List.forall_mem_cons.mpr ⟨h _ (at_pm (i := 157) (by decide) rfl), (fun c hc => by cases hc)⟩) lk_t144
theorem lk_v145 (h : ∀ c ∈ at_CM ++ at_CA.take 145, at_Valid at_XI (pw_P L xs) c) : at_Valid at_XI (pw_P L xs) at_q145 := at_chk_ok at_XI_XX (fun m h => by have := h.h40; omega) (List.forall_mem_cons.mpr ⟨h _ (at_pm (i := 158) (by decide) rfl), (fun c hc => by cases hc)⟩) lk_t145
theorem lk_v146 (h : ∀ c ∈ at_CM ++ at_CA.take 146, at_Valid at_XI (pw_P L xs) c) : at_Valid at_XI (pw_P L xs) at_q146 := at_chk_ok at_XI_XX (fun m h => by have := h.h40; omega) (List.forall_mem_cons.mpr ⟨h _ (at_pm (i := 127) (by decide) rfl), (List.forall_mem_cons.mpr ⟨h _ (at_pm (i := 152) (by decide) rfl), (List.forall_mem_cons.mpr ⟨h _ (at_pm (i := 159) (by decide) rfl), (fun c hc => by cases hc)⟩)⟩)⟩) lk_t146
theorem lk_v147 (h : ∀ c ∈ at_CM ++ at_CA.take 147, at_Valid at_XI (pw_P L xs) c) : at_Valid at_XI (pw_P L xs) at_q147 := at_chk_ok at_XI_XX (fun m h => by have := h.h40; omega) (List.forall_mem_cons.mpr ⟨h _ (at_pm (i := 127) (by decide) rfl), (List.forall_mem_cons.mpr ⟨h _ (at_pm (i := 128) (by decide) rfl), (fun c hc => by cases hc)⟩)⟩) lk_t147
theorem lk_v148 (h : ∀ c ∈ at_CM ++ at_CA.take 148, at_Valid at_XI (pw_P L xs) c) : at_Valid at_XI (pw_P L xs) at_q148 := at_chk_ok at_XI_XX (fun m h => by have := h.h40; omega) (List.forall_mem_cons.mpr ⟨h _ (at_pm (i := 161) (by decide) rfl), (fun c hc => by cases hc)⟩) lk_t148
theorem lk_v149 (h : ∀ c ∈ at_CM ++ at_CA.take 149, at_Valid at_XI (pw_P L xs) c) : at_Valid at_XI (pw_P L xs) at_q149 := at_chk_ok at_XI_XX (fun m h => by have := h.h40; omega) (List.forall_mem_cons.mpr ⟨h _ (at_pm (i := 130) (by decide) rfl), (List.forall_mem_cons.mpr ⟨h _ (at_pm (i := 135) (by decide) rfl), (List.forall_mem_cons.mpr ⟨h _ (at_pm (i := 139) (by decide) rfl), (List.forall_mem_cons.mpr ⟨h _ (at_pm (i := 145) (by decide) rfl), (List.forall_mem_cons.mpr ⟨h _ (at_pm (i := 149) (by decide) rfl), (List.forall_mem_cons.mpr ⟨h _ (at_pm (i := 150) (by decide) rfl), (List.forall_mem_cons.mpr ⟨h _ (at_pm (i := 155) (by decide) rfl), (List.forall_mem_cons.mpr ⟨h _ (at_pm (i := 156) (by decide) rfl), (List.forall_mem_cons.mpr ⟨h _ (at_pm (i := 160) (by decide) rfl), (List.forall_mem_cons.mpr ⟨h _ (at_pm (i := 162) (by decide) rfl), (fun c hc => by cases hc)⟩)⟩)⟩)⟩)⟩)⟩)⟩)⟩)⟩)⟩) lk_t149
theorem lk_v150 (h : ∀ c ∈ at_CM ++ at_CA.take 150, at_Valid at_XI (pw_P L xs) c) : at_Valid at_XI (pw_P L xs) at_q150 := at_chk_ok at_XI_XX (fun m h => by have := h.h40; omega) (List.forall_mem_cons.mpr ⟨h _ (at_pm (i := 163) (by decide) rfl), (fun c hc => by cases hc)⟩) lk_t150
theorem lk_v151 (h : ∀ c ∈ at_CM ++ at_CA.take 151, at_Valid at_XI (pw_P L xs) c) : at_Valid at_XI (pw_P L xs) at_q151 := at_chk_ok at_XI_XX (fun m h => by have := h.h40; omega) (List.forall_mem_cons.mpr ⟨h _ (at_pm (i := 126) (by decide) rfl), (List.forall_mem_cons.mpr ⟨h _ (at_pm (i := 161) (by decide) rfl), (List.forall_mem_cons.mpr ⟨h _ (at_pm (i := 164) (by decide) rfl), (fun c hc => by cases hc)⟩)⟩)⟩) lk_t151
theorem lk_v152 (h : ∀ c ∈ at_CM ++ at_CA.take 152, at_Valid at_XI (pw_P L xs) c) : at_Valid at_XI (pw_P L xs) at_q152 := at_chk_ok at_XI_XX (fun m h => by have := h.h40; omega) (List.forall_mem_cons.mpr ⟨h _ (at_pm (i := 126) (by decide) rfl), (List.forall_mem_cons.mpr ⟨h _ (at_pm (i := 164) (by decide) rfl), (fun c hc => by cases hc)⟩)⟩) lk_t152
theorem lk_v153 (h : ∀ c ∈ at_CM ++ at_CA.take 153, at_Valid at_XI (pw_P L xs) c) : at_Valid at_XI (pw_P L xs) at_q153 := at_chk_ok at_XI_XX (fun m h => by have := h.h40; omega) (List.forall_mem_cons.mpr ⟨h _ (at_pm (i := 163) (by decide) rfl), (fun c hc => by cases hc)⟩) lk_t153
theorem lk_v154 (h : ∀ c ∈ at_CM ++ at_CA.take 154, at_Valid at_XI (pw_P L xs) c) : at_Valid at_XI (pw_P L xs) at_q154 := at_chk_ok at_XI_XX (fun m h => by have := h.h40; omega) (List.forall_mem_cons.mpr ⟨h _ (at_pm (i := 126) (by decide) rfl), (List.forall_mem_cons.mpr ⟨h _ (at_pm (i := 161) (by decide) rfl), (List.forall_mem_cons.mpr ⟨h _ (at_pm (i := 167) (by decide) rfl), (fun c hc => by cases hc)⟩)⟩)⟩) lk_t154
theorem lk_v155 (h : ∀ c ∈ at_CM ++ at_CA.take 155, at_Valid at_XI (pw_P L xs) c) : at_Valid at_XI (pw_P L xs) at_q155 := at_chk_ok at_XI_XX (fun m h => by have := h.h40; omega) (List.forall_mem_cons.mpr ⟨h _ (at_pm (i := 126) (by decide) rfl), (List.forall_mem_cons.mpr ⟨h _ (at_pm (i := 163) (by decide) rfl), (fun c hc => by cases hc)⟩)⟩) lk_t155
theorem lk_v156 (h : ∀ c ∈ at_CM ++ at_CA.take 156, at_Valid at_XI (pw_P L xs) c) : at_Valid at_XI (pw_P L xs) at_q156 := at_chk_ok at_XI_XX (fun m h => by have := h.h40; omega) (List.forall_mem_cons.mpr ⟨h _ (at_pm (i := 126) (by decide) rfl), (List.forall_mem_cons.mpr ⟨h _ (at_pm (i := 163) (by decide) rfl), (fun c hc => by cases hc)⟩)⟩) lk_t156
theorem lk_v157 (h : ∀ c ∈ at_CM ++ at_CA.take 157, at_Valid at_XI (pw_P L xs) c) : at_Valid at_XI (pw_P L xs) at_q157 := at_chk_ok at_XI_XX (fun m h => by have := h.h40; omega) (List.forall_mem_cons.mpr ⟨h _ (at_pm (i := 126) (by decide) rfl), (List.forall_mem_cons.mpr ⟨h _ (at_pm (i := 163) (by decide) rfl), (fun c hc => by cases hc)⟩)⟩) lk_t157
theorem lk_v158 (h : ∀ c ∈ at_CM ++ at_CA.take 158, at_Valid at_XI (pw_P L xs) c) : at_Valid at_XI (pw_P L xs) at_q158 := at_chk_ok at_XI_XX (fun m h => by have := h.h40; omega) (List.forall_mem_cons.mpr ⟨h _ (at_pm (i := 26) (by decide) rfl), (List.forall_mem_cons.mpr ⟨h _ (at_pm (i := 27) (by decide) rfl), (List.forall_mem_cons.mpr ⟨h _ (at_pm (i := 171) (by decide) rfl), (fun c hc => by cases hc)⟩)⟩)⟩) lk_t158
theorem lk_v159 (h : ∀ c ∈ at_CM ++ at_CA.take 159, at_Valid at_XI (pw_P L xs) c) : at_Valid at_XI (pw_P L xs) at_q159 := at_chk_ok at_XI_XX (fun m h => by have := h.h40; omega) (List.forall_mem_cons.mpr ⟨h _ (at_pm (i := 126) (by decide) rfl), (List.forall_mem_cons.mpr ⟨h _ (at_pm (i := 152) (by decide) rfl), (List.forall_mem_cons.mpr ⟨h _ (at_pm (i := 163) (by decide) rfl), (fun c hc => by cases hc)⟩)⟩)⟩) lk_t159
theorem lk_v160 (h : ∀ c ∈ at_CM ++ at_CA.take 160, at_Valid at_XI (pw_P L xs) c) : at_Valid at_XI (pw_P L xs) at_q160 := at_chk_ok at_XI_XX (fun m h => by have := h.h40; omega) (List.forall_mem_cons.mpr ⟨h _ (at_pm (i := 173) (by decide) rfl), (fun c hc => by cases hc)⟩) lk_t160
theorem lk_v161 (h : ∀ c ∈ at_CM ++ at_CA.take 161, at_Valid at_XI (pw_P L xs) c) : at_Valid at_XI (pw_P L xs) at_q161 := at_chk_ok at_XI_XX (fun m h => by have := h.h40; omega) (List.forall_mem_cons.mpr ⟨h _ (at_pm (i := 126) (by decide) rfl), (List.forall_mem_cons.mpr ⟨h _ (at_pm (i := 163) (by decide) rfl), (fun c hc => by cases hc)⟩)⟩) lk_t161
theorem lk_v162 (_h : ∀ c ∈ at_CM ++ at_CA.take 162, at_Valid at_XI (pw_P L xs) c) : at_Valid at_XI (pw_P L xs) at_q162 := at_chk_ok at_XI_XX (fun m h => by have := h.h40; omega) (fun c hc => by cases hc) lk_t162
theorem lk_v163 (h : ∀ c ∈ at_CM ++ at_CA.take 163, at_Valid at_XI (pw_P L xs) c) : at_Valid at_XI (pw_P L xs) at_q163 := at_chk_ok at_XI_XX (fun m h => by have := h.h40; omega) (List.forall_mem_cons.mpr ⟨h _ (at_pm (i := 126) (by decide) rfl), (List.forall_mem_cons.mpr ⟨h _ (at_pm (i := 163) (by decide) rfl), (List.forall_mem_cons.mpr ⟨h _ (at_pm (i := 176) (by decide) rfl), (fun c hc => by cases hc)⟩)⟩)⟩) lk_t163
theorem lk_v164 (h : ∀ c ∈ at_CM ++ at_CA.take 164, at_Valid at_XI (pw_P L xs) c) : at_Valid at_XI (pw_P L xs) at_q164 := at_chk_ok at_XI_XX (fun m h => by have := h.h40; omega) (List.forall_mem_cons.mpr ⟨h _ (at_pm (i := 173) (by decide) rfl), (fun c hc => by cases hc)⟩) lk_t164
theorem lk_v165 (_h : ∀ c ∈ at_CM ++ at_CA.take 165, at_Valid at_XI (pw_P L xs) c) : at_Valid at_XI (pw_P L xs) at_q165 := at_chk_ok at_XI_XX (fun m h => by have := h.h40; omega) (fun c hc => by cases hc) lk_t165
theorem lk_v166 (h : ∀ c ∈ at_CM ++ at_CA.take 166, at_Valid at_XI (pw_P L xs) c) : at_Valid at_XI (pw_P L xs) at_q166 := at_chk_ok at_XI_XX (fun m h => by have := h.h40; omega) (List.forall_mem_cons.mpr ⟨h _ (at_pm (i := 4) (by decide) rfl), (List.forall_mem_cons.mpr ⟨h _ (at_pm (i := 179) (by decide) rfl), (fun c hc => by cases hc)⟩)⟩) lk_t166
theorem lk_v167 (h : ∀ c ∈ at_CM ++ at_CA.take 167, at_Valid at_XI (pw_P L xs) c) : at_Valid at_XI (pw_P L xs) at_q167 := at_chk_ok at_XI_XX (fun m h => by have := h.h40; omega) (List.forall_mem_cons.mpr ⟨h _ (at_pm (i := 4) (by decide) rfl), (fun c hc => by cases hc)⟩) lk_t167
theorem lk_v168 (h : ∀ c ∈ at_CM ++ at_CA.take 168, at_Valid at_XI (pw_P L xs) c) : at_Valid at_XI (pw_P L xs) at_q168 := at_chk_ok at_XI_XX (fun m h => by have := h.h40; omega) (List.forall_mem_cons.mpr ⟨h _ (at_pm (i := 4) (by decide) rfl), (fun c hc => by cases hc)⟩) lk_t168
theorem lk_v169 (h : ∀ c ∈ at_CM ++ at_CA.take 169, at_Valid at_XI (pw_P L xs) c) : at_Valid at_XI (pw_P L xs) at_q169 := at_chk_ok at_XI_XX (fun m h => by have := h.h40; omega) (List.forall_mem_cons.mpr ⟨h _ (at_pm (i := 4) (by decide) rfl), (fun c hc => by cases hc)⟩) lk_t169
theorem lk_v170 (_h : ∀ c ∈ at_CM ++ at_CA.take 170, at_Valid at_XI (pw_P L xs) c) : at_Valid at_XI (pw_P L xs) at_q170 := at_chk_ok at_XI_XX (fun m h => by have := h.h40; omega) (fun c hc => by cases hc) lk_t170
theorem lk_v171 (h : ∀ c ∈ at_CM ++ at_CA.take 171, at_Valid at_XI (pw_P L xs) c) : at_Valid at_XI (pw_P L xs) at_q171 := at_chk_ok at_XI_XX (fun m h => by have := h.h40; omega) (List.forall_mem_cons.mpr ⟨h _ (at_pm (i := 179) (by decide) rfl), (List.forall_mem_cons.mpr ⟨h _ (at_pm (i := 184) (by decide) rfl), (fun c hc => by cases hc)⟩)⟩) lk_t171
theorem lk_v172 (_h : ∀ c ∈ at_CM ++ at_CA.take 172, at_Valid at_XI (pw_P L xs) c) : at_Valid at_XI (pw_P L xs) at_q172 := at_chk_ok at_XI_XX (fun m h => by have := h.h40; omega) (fun c hc => by cases hc) lk_t172
theorem lk_v173 (h : ∀ c ∈ at_CM ++ at_CA.take 173, at_Valid at_XI (pw_P L xs) c) : at_Valid at_XI (pw_P L xs) at_q173 := at_chk_ok at_XI_XX (fun m h => by have := h.h40; omega) (List.forall_mem_cons.mpr ⟨h _ (at_pm (i := 186) (by decide) rfl), (fun c hc => by cases hc)⟩) lk_t173
theorem lk_v174 (h : ∀ c ∈ at_CM ++ at_CA.take 174, at_Valid at_XI (pw_P L xs) c) : at_Valid at_XI (pw_P L xs) at_q174 := at_chk_ok at_XI_XX (fun m h => by have := h.h40; omega) (List.forall_mem_cons.mpr ⟨h _ (at_pm (i := 185) (by decide) rfl), (List.forall_mem_cons.mpr ⟨h _ (at_pm (i := 186) (by decide) rfl), (List.forall_mem_cons.mpr ⟨h _ (at_pm (i := 187) (by decide) rfl), (fun c hc => by cases hc)⟩)⟩)⟩) lk_t174
theorem lk_v175 (h : ∀ c ∈ at_CM ++ at_CA.take 175, at_Valid at_XI (pw_P L xs) c) : at_Valid at_XI (pw_P L xs) at_q175 := at_chk_ok at_XI_XX (fun m h => by have := h.h40; omega) (List.forall_mem_cons.mpr ⟨h _ (at_pm (i := 179) (by decide) rfl), (List.forall_mem_cons.mpr ⟨h _ (at_pm (i := 184) (by decide) rfl), (fun c hc => by cases hc)⟩)⟩) lk_t175
theorem lk_v176 (h : ∀ c ∈ at_CM ++ at_CA.take 176, at_Valid at_XI (pw_P L xs) c) : at_Valid at_XI (pw_P L xs) at_q176 := at_chk_ok at_XI_XX (fun m h => by have := h.h40; omega) (List.forall_mem_cons.mpr ⟨h _ (at_pm (i := 189) (by decide) rfl), (fun c hc => by cases hc)⟩) lk_t176
theorem lk_v177 (h : ∀ c ∈ at_CM ++ at_CA.take 177, at_Valid at_XI (pw_P L xs) c) : at_Valid at_XI (pw_P L xs) at_q177 := at_chk_ok at_XI_XX (fun m h => by have := h.h40; omega) (List.forall_mem_cons.mpr ⟨h _ (at_pm (i := 189) (by decide) rfl), (fun c hc => by cases hc)⟩) lk_t177
theorem lk_v178 (h : ∀ c ∈ at_CM ++ at_CA.take 178, at_Valid at_XI (pw_P L xs) c) : at_Valid at_XI (pw_P L xs) at_q178 := at_chk_ok at_XI_XX (fun m h => by have := h.h40; omega) (List.forall_mem_cons.mpr ⟨h _ (at_pm (i := 187) (by decide) rfl), (List.forall_mem_cons.mpr ⟨h _ (at_pm (i := 189) (by decide) rfl), (List.forall_mem_cons.mpr ⟨h _ (at_pm (i := 190) (by decide) rfl), (List.forall_mem_cons.mpr ⟨h _ (at_pm (i := 191) (by decide) rfl), (fun c hc => by cases hc)⟩)⟩)⟩)⟩) lk_t178
theorem lk_v179 (h : ∀ c ∈ at_CM ++ at_CA.take 179, at_Valid at_XI (pw_P L xs) c) : at_Valid at_XI (pw_P L xs) at_q179 := at_chk_ok at_XI_XX (fun m h => by have := h.h40; omega) (List.forall_mem_cons.mpr ⟨h _ (at_pm (i := 5) (by decide) rfl), (fun c hc => by cases hc)⟩) lk_t179
theorem lk_v180 (h : ∀ c ∈ at_CM ++ at_CA.take 180, at_Valid at_XI (pw_P L xs) c) : at_Valid at_XI (pw_P L xs) at_q180 := at_chk_ok at_XI_XX (fun m h => by have := h.h40; omega) (List.forall_mem_cons.mpr ⟨h _ (at_pm (i := 179) (by decide) rfl), (fun c hc => by cases hc)⟩) lk_t180
theorem lk_v181 (h : ∀ c ∈ at_CM ++ at_CA.take 181, at_Valid at_XI (pw_P L xs) c) : at_Valid at_XI (pw_P L xs) at_q181 := at_chk_ok at_XI_XX (fun m h => by have := h.h40; omega) (List.forall_mem_cons.mpr ⟨h _ (at_pm (i := 179) (by decide) rfl), (fun c hc => by cases hc)⟩) lk_t181
theorem lk_v182 (_h : ∀ c ∈ at_CM ++ at_CA.take 182, at_Valid at_XI (pw_P L xs) c) : at_Valid at_XI (pw_P L xs) at_q182 := at_chk_ok at_XI_XX (fun m h => by have := h.h40; omega) (fun c hc => by cases hc) lk_t182
theorem lk_v183 (h : ∀ c ∈ at_CM ++ at_CA.take 183, at_Valid at_XI (pw_P L xs) c) : at_Valid at_XI (pw_P L xs) at_q183 := at_chk_ok at_XI_XX (fun m h => by have := h.h40; omega) (List.forall_mem_cons.mpr ⟨h _ (at_pm (i := 179) (by decide) rfl), (List.forall_mem_cons.mpr ⟨h _ (at_pm (i := 195) (by decide) rfl), (List.forall_mem_cons.mpr ⟨h _ (at_pm (i := 196) (by decide) rfl), (fun c hc => by cases hc)⟩)⟩)⟩) lk_t183
theorem lk_v184 (h : ∀ c ∈ at_CM ++ at_CA.take 184, at_Valid at_XI (pw_P L xs) c) : at_Valid at_XI (pw_P L xs) at_q184 := at_chk_ok at_XI_XX (fun m h => by have := h.h40; omega) (List.forall_mem_cons.mpr ⟨h _ (at_pm (i := 194) (by decide) rfl), (List.forall_mem_cons.mpr ⟨h _ (at_pm (i := 197) (by decide) rfl), (fun c hc => by cases hc)⟩)⟩) lk_t184
theorem lk_v185 (h : ∀ c ∈ at_CM ++ at_CA.take 185, at_Valid at_XI (pw_P L xs) c) : at_Valid at_XI (pw_P L xs) at_q185 := at_chk_ok at_XI_XX (fun m h => by have := h.h40; omega) (List.forall_mem_cons.mpr ⟨h _ (at_pm (i := 179) (by decide) rfl), (List.forall_mem_cons.mpr ⟨h _ (at_pm (i := 184) (by decide) rfl), (fun c hc => by cases hc)⟩)⟩) lk_t185
theorem lk_v186 (h : ∀ c ∈ at_CM ++ at_CA.take 186, at_Valid at_XI (pw_P L xs) c) : at_Valid at_XI (pw_P L xs) at_q186 := at_chk_ok at_XI_XX (fun m h => by have := h.h40; omega) (List.forall_mem_cons.mpr ⟨h _ (at_pm (i := 184) (by decide) rfl), (fun c hc => by cases hc)⟩) lk_t186
theorem lk_v187 (h : ∀ c ∈ at_CM ++ at_CA.take 187, at_Valid at_XI (pw_P L xs) c) : at_Valid at_XI (pw_P L xs) at_q187 := at_chk_ok at_XI_XX (fun m h => by have := h.h40; omega) (List.forall_mem_cons.mpr ⟨h _ (at_pm (i := 179) (by decide) rfl), (List.forall_mem_cons.mpr ⟨h _ (at_pm (i := 184) (by decide) rfl), (List.forall_mem_cons.mpr ⟨h _ (at_pm (i := 187) (by decide) rfl), (List.forall_mem_cons.mpr ⟨h _ (at_pm (i := 199) (by decide) rfl), (List.forall_mem_cons.mpr ⟨h _ (at_pm (i := 200) (by decide) rfl), (fun c hc => by cases hc)⟩)⟩)⟩)⟩)⟩) lk_t187
theorem lk_v188 (_h : ∀ c ∈ at_CM ++ at_CA.take 188, at_Valid at_XI (pw_P L xs) c) : at_Valid at_XI (pw_P L xs) at_q188 := at_chk_ok at_XI_XX (fun m h => by have := h.h40; omega) (fun c hc => by cases hc) lk_t188
theorem lk_v189 (h : ∀ c ∈ at_CM ++ at_CA.take 189, at_Valid at_XI (pw_P L xs) c) : at_Valid at_XI (pw_P L xs) at_q189 := at_chk_ok at_XI_XX (fun m h => by have := h.h40; omega) (List.forall_mem_cons.mpr ⟨h _ (at_pm (i := 179) (by decide) rfl), (List.forall_mem_cons.mpr ⟨h _ (at_pm (i := 184) (by decide) rfl), (fun c hc => by cases hc)⟩)⟩) lk_t189
theorem lk_v190 (h : ∀ c ∈ at_CM ++ at_CA.take 190, at_Valid at_XI (pw_P L xs) c) : at_Valid at_XI (pw_P L xs) at_q190 := at_chk_ok at_XI_XX (fun m h => by have := h.h40; omega) (List.forall_mem_cons.mpr ⟨h _ (at_pm (i := 179) (by decide) rfl), (List.forall_mem_cons.mpr ⟨h _ (at_pm (i := 195) (by decide) rfl), (fun c hc => by cases hc)⟩)⟩) lk_t190
theorem lk_v191 (h : ∀ c ∈ at_CM ++ at_CA.take 191, at_Valid at_XI (pw_P L xs) c) : at_Valid at_XI (pw_P L xs) at_q191 := at_chk_ok at_XI_XX (fun m h => by have := h.h40; omega) (List.forall_mem_cons.mpr ⟨h _ (at_pm (i := 203) (by decide) rfl), (List.forall_mem_cons.mpr ⟨h _ (at_pm (i := 204) (by decide) rfl), (fun c hc => by cases hc)⟩)⟩) lk_t191
theorem lk_v192 (h : ∀ c ∈ at_CM ++ at_CA.take 192, at_Valid at_XI (pw_P L xs) c) : at_Valid at_XI (pw_P L xs) at_q192 := at_chk_ok at_XI_XX (fun m h => by have := h.h40; omega) (List.forall_mem_cons.mpr ⟨h _ (at_pm (i := 186) (by decide) rfl), (List.forall_mem_cons.mpr ⟨h _ (at_pm (i := 202) (by decide) rfl), (List.forall_mem_cons.mpr ⟨h _ (at_pm (i := 203) (by decide) rfl), (List.forall_mem_cons.mpr ⟨h _ (at_pm (i := 205) (by decide) rfl), (fun c hc => by cases hc)⟩)⟩)⟩)⟩) lk_t192
theorem lk_v193 (_h : ∀ c ∈ at_CM ++ at_CA.take 193, at_Valid at_XI (pw_P L xs) c) : at_Valid at_XI (pw_P L xs) at_q193 := at_chk_ok at_XI_XX (fun m h => by have := h.h40; omega) (fun c hc => by cases hc) lk_t193
theorem lk_v194 (h : ∀ c ∈ at_CM ++ at_CA.take 194, at_Valid at_XI (pw_P L xs) c) : at_Valid at_XI (pw_P L xs) at_q194 := at_chk_ok at_XI_XX (fun m h => by have := h.h40; omega) (List.forall_mem_cons.mpr ⟨h _ (at_pm (i := 179) (by decide) rfl), (List.forall_mem_cons.mpr ⟨h _ (at_pm (i := 207) (by decide) rfl), (fun c hc => by cases hc)⟩)⟩) lk_t194
theorem lk_v195 (h : ∀ c ∈ at_CM ++ at_CA.take 195, at_Valid at_XI (pw_P L xs) c) : at_Valid at_XI (pw_P L xs) at_q195 := at_chk_ok at_XI_XX (fun m h => by have := h.h40; omega) (List.forall_mem_cons.mpr ⟨h _ (at_pm (i := 179) (by decide) rfl), (List.forall_mem_cons.mpr ⟨h _ (at_pm (i := 184) (by decide) rfl), (List.forall_mem_cons.mpr ⟨h _ (at_pm (i := 199) (by decide) rfl), (List.forall_mem_cons.mpr ⟨h _ (at_pm (i := 204) (by decide) rfl), (List.forall_mem_cons.mpr ⟨h _ (at_pm (i := 208) (by decide) rfl), (fun c hc => by cases hc)⟩)⟩)⟩)⟩)⟩) lk_t195
theorem lk_v196 (h : ∀ c ∈ at_CM ++ at_CA.take 196, at_Valid at_XI (pw_P L xs) c) : at_Valid at_XI (pw_P L xs) at_q196 := at_chk_ok at_XI_XX (fun m h => by have := h.h40; omega) (List.forall_mem_cons.mpr ⟨h _ (at_pm (i := 179) (by decide) rfl), (List.forall_mem_cons.mpr ⟨h _ (at_pm (i := 184) (by decide) rfl), (fun c hc => by cases hc)⟩)⟩) lk_t196
theorem lk_v197 (h : ∀ c ∈ at_CM ++ at_CA.take 197, at_Valid at_XI (pw_P L xs) c) : at_Valid at_XI (pw_P L xs) at_q197 := at_chk_ok at_XI_XX (fun m h => by have := h.h40; omega) (List.forall_mem_cons.mpr ⟨h _ (at_pm (i := 186) (by decide) rfl), (List.forall_mem_cons.mpr ⟨h _ (at_pm (i := 199) (by decide) rfl), (fun c hc => by cases hc)⟩)⟩) lk_t197
theorem lk_v198 (h : ∀ c ∈ at_CM ++ at_CA.take 198, at_Valid at_XI (pw_P L xs) c) : at_Valid at_XI (pw_P L xs) at_q198 := at_chk_ok at_XI_XX (fun m h => by have := h.h40; omega) (List.forall_mem_cons.mpr ⟨h _ (at_pm (i := 211) (by decide) rfl), (fun c hc => by cases hc)⟩) lk_t198
theorem lk_v199 (h : ∀ c ∈ at_CM ++ at_CA.take 199, at_Valid at_XI (pw_P L xs) c) : at_Valid at_XI (pw_P L xs) at_q199 := at_chk_ok at_XI_XX (fun m h => by have := h.h40; omega) (List.forall_mem_cons.mpr ⟨h _ (at_pm (i := 188) (by decide) rfl), (List.forall_mem_cons.mpr ⟨h _ (at_pm (i := 192) (by decide) rfl), (List.forall_mem_cons.mpr ⟨h _ (at_pm (i := 193) (by decide) rfl), (List.forall_mem_cons.mpr ⟨h _ (at_pm (i := 198) (by decide) rfl), (List.forall_mem_cons.mpr ⟨h _ (at_pm (i := 201) (by decide) rfl), (List.forall_mem_cons.mpr ⟨h _ (at_pm (i := 206) (by decide) rfl), (List.forall_mem_cons.mpr ⟨h _ (at_pm (i := 209) (by decide) rfl), (List.forall_mem_cons.mpr ⟨h _ (at_pm (i := 210) (by decide) rfl), (List.forall_mem_cons.mpr ⟨h _ (at_pm (i := 212) (by decide) rfl), (fun c hc => by cases hc)⟩)⟩)⟩)⟩)⟩)⟩)⟩)⟩)⟩) lk_t199
theorem lk_v200 (h : ∀ c ∈ at_CM ++ at_CA.take 200, at_Valid at_XI (pw_P L xs) c) : at_Valid at_XI (pw_P L xs) at_q200 := at_chk_ok at_XI_XX (fun m h => by have := h.h40; omega) (List.forall_mem_cons.mpr ⟨h _ (at_pm (i := 213) (by decide) rfl), (fun c hc => by cases hc)⟩) lk_t200
theorem lk_v201 (h : ∀ c ∈ at_CM ++ at_CA.take 201, at_Valid at_XI (pw_P L xs) c) : at_Valid at_XI (pw_P L xs) at_q201 := at_chk_ok at_XI_XX (fun m h => by have := h.h40; omega) (List.forall_mem_cons.mpr ⟨h _ (at_pm (i := 4) (by decide) rfl), (List.forall_mem_cons.mpr ⟨h _ (at_pm (i := 214) (by decide) rfl), (fun c hc => by cases hc)⟩)⟩) lk_t201
theorem lk_v202 (h : ∀ c ∈ at_CM ++ at_CA.take 202, at_Valid at_XI (pw_P L xs) c) : at_Valid at_XI (pw_P L xs) at_q202 := at_chk_ok at_XI_XX (fun m h => by have := h.h40; omega) (List.forall_mem_cons.mpr ⟨h _ (at_pm (i := 4) (by decide) rfl), (fun c hc => by cases hc)⟩) lk_t202
theorem lk_v203 (h : ∀ c ∈ at_CM ++ at_CA.take 203, at_Valid at_XI (pw_P L xs) c) : at_Valid at_XI (pw_P L xs) at_q203 := at_chk_ok at_XI_XX (fun m h => by have := h.h40; omega) (List.forall_mem_cons.mpr ⟨h _ (at_pm (i := 4) (by decide) rfl), (fun c hc => by cases hc)⟩) lk_t203
theorem lk_v204 (_h : ∀ c ∈ at_CM ++ at_CA.take 204, at_Valid at_XI (pw_P L xs) c) : at_Valid at_XI (pw_P L xs) at_q204 := at_chk_ok at_XI_XX (fun m h => by have := h.h40; omega) (fun c hc => by cases hc) lk_t204
theorem lk_v205 (h : ∀ c ∈ at_CM ++ at_CA.take 205, at_Valid at_XI (pw_P L xs) c) : at_Valid at_XI (pw_P L xs) at_q205 := at_chk_ok at_XI_XX (fun m h => by have := h.h40; omega) (List.forall_mem_cons.mpr ⟨h _ (at_pm (i := 4) (by decide) rfl), (List.forall_mem_cons.mpr ⟨h _ (at_pm (i := 218) (by decide) rfl), (fun c hc => by cases hc)⟩)⟩) lk_t205
theorem lk_v206 (h : ∀ c ∈ at_CM ++ at_CA.take 206, at_Valid at_XI (pw_P L xs) c) : at_Valid at_XI (pw_P L xs) at_q206 := at_chk_ok at_XI_XX (fun m h => by have := h.h40; omega) (List.forall_mem_cons.mpr ⟨h _ (at_pm (i := 4) (by decide) rfl), (fun c hc => by cases hc)⟩) lk_t206
theorem lk_v207 (h : ∀ c ∈ at_CM ++ at_CA.take 207, at_Valid at_XI (pw_P L xs) c) : at_Valid at_XI (pw_P L xs) at_q207 := at_chk_ok at_XI_XX (fun m h => by have := h.h40; omega) (List.forall_mem_cons.mpr ⟨h _ (at_pm (i := 4) (by decide) rfl), (fun c hc => by cases hc)⟩) lk_t207
theorem lk_v208 (h : ∀ c ∈ at_CM ++ at_CA.take 208, at_Valid at_XI (pw_P L xs) c) : at_Valid at_XI (pw_P L xs) at_q208 := at_chk_ok at_XI_XX (fun m h => by have := h.h40; omega) (List.forall_mem_cons.mpr ⟨h _ (at_pm (i := 4) (by decide) rfl), (List.forall_mem_cons.mpr ⟨h _ (at_pm (i := 179) (by decide) rfl), (fun c hc => by cases hc)⟩)⟩) lk_t208
theorem lk_v209 (h : ∀ c ∈ at_CM ++ at_CA.take 209, at_Valid at_XI (pw_P L xs) c) : at_Valid at_XI (pw_P L xs) at_q209 := at_chk_ok at_XI_XX (fun m h => by have := h.h40; omega) (List.forall_mem_cons.mpr ⟨h _ (at_pm (i := 4) (by decide) rfl), (fun c hc => by cases hc)⟩) lk_t209
theorem lk_v210 (h : ∀ c ∈ at_CM ++ at_CA.take 210, at_Valid at_XI (pw_P L xs) c) : at_Valid at_XI (pw_P L xs) at_q210 := at_chk_ok at_XI_XX (fun m h => by have := h.h40; omega) (List.forall_mem_cons.mpr ⟨h _ (at_pm (i := 4) (by decide) rfl), (fun c hc => by cases hc)⟩) lk_t210
theorem lk_v211 (h : ∀ c ∈ at_CM ++ at_CA.take 211, at_Valid at_XI (pw_P L xs) c) : at_Valid at_XI (pw_P L xs) at_q211 := at_chk_ok at_XI_XX (fun m h => by have := h.h40; omega) (List.forall_mem_cons.mpr ⟨h _ (at_pm (i := 4) (by decide) rfl), (fun c hc => by cases hc)⟩) lk_t211
theorem lk_v212 (h : ∀ c ∈ at_CM ++ at_CA.take 212, at_Valid at_XI (pw_P L xs) c) : at_Valid at_XI (pw_P L xs) at_q212 := at_chk_ok at_XI_XX (fun m h => by have := h.h40; omega) (List.forall_mem_cons.mpr ⟨h _ (at_pm (i := 4) (by decide) rfl), (fun c hc => by cases hc)⟩) lk_t212
theorem lk_v213 (h : ∀ c ∈ at_CM ++ at_CA.take 213, at_Valid at_XI (pw_P L xs) c) : at_Valid at_XI (pw_P L xs) at_q213 := at_chk_ok at_XI_XX (fun m h => by have := h.h40; omega) (List.forall_mem_cons.mpr ⟨h _ (at_pm (i := 4) (by decide) rfl), (fun c hc => by cases hc)⟩) lk_t213
theorem lk_v214 (h : ∀ c ∈ at_CM ++ at_CA.take 214, at_Valid at_XI (pw_P L xs) c) : at_Valid at_XI (pw_P L xs) at_q214 := at_chk_ok at_XI_XX (fun m h => by have := h.h40; omega) (List.forall_mem_cons.mpr ⟨h _ (at_pm (i := 4) (by decide) rfl), (fun c hc => by cases hc)⟩) lk_t214
theorem lk_v215 (_h : ∀ c ∈ at_CM ++ at_CA.take 215, at_Valid at_XI (pw_P L xs) c) : at_Valid at_XI (pw_P L xs) at_q215 := at_chk_ok at_XI_XX (fun m h => by have := h.h40; omega) (fun c hc => by cases hc) lk_t215
theorem lk_v216 (h : ∀ c ∈ at_CM ++ at_CA.take 216, at_Valid at_XI (pw_P L xs) c) : at_Valid at_XI (pw_P L xs) at_q216 := at_chk_ok at_XI_XX (fun m h => by have := h.h40; omega) (List.forall_mem_cons.mpr ⟨h _ (at_pm (i := 213) (by decide) rfl), (fun c hc => by cases hc)⟩) lk_t216
theorem lk_v217 (h : ∀ c ∈ at_CM ++ at_CA.take 217, at_Valid at_XI (pw_P L xs) c) : at_Valid at_XI (pw_P L xs) at_q217 := at_chk_ok at_XI_XX (fun m h => by have := h.h40; omega) (List.forall_mem_cons.mpr ⟨h _ (at_pm (i := 4) (by decide) rfl), (List.forall_mem_cons.mpr ⟨h _ (at_pm (i := 229) (by decide) rfl), (List.forall_mem_cons.mpr ⟨h _ (at_pm (i := 230) (by decide) rfl), (fun c hc => by cases hc)⟩)⟩)⟩) lk_t217
theorem lk_v218 (_h : ∀ c ∈ at_CM ++ at_CA.take 218, at_Valid at_XI (pw_P L xs) c) : at_Valid at_XI (pw_P L xs) at_q218 := at_chk_ok at_XI_XX (fun m h => by have := h.h40; omega) (fun c hc => by cases hc) lk_t218
theorem lk_v219 (h : ∀ c ∈ at_CM ++ at_CA.take 219, at_Valid at_XI (pw_P L xs) c) : at_Valid at_XI (pw_P L xs) at_q219 := at_chk_ok at_XI_XX (fun m h => by have := h.h40; omega) (List.forall_mem_cons.mpr ⟨h _ (at_pm (i := 179) (by decide) rfl), (List.forall_mem_cons.mpr ⟨h _ (at_pm (i := 184) (by decide) rfl), (fun c hc => by cases hc)⟩)⟩) lk_t219
theorem lk_v220 (h : ∀ c ∈ at_CM ++ at_CA.take 220, at_Valid at_XI (pw_P L xs) c) : at_Valid at_XI (pw_P L xs) at_q220 := at_chk_ok at_XI_XX (fun m h => by have := h.h40; omega) (List.forall_mem_cons.mpr ⟨h _ (at_pm (i := 233) (by decide) rfl), (fun c hc => by cases hc)⟩) lk_t220
theorem lk_v221 (_h : ∀ c ∈ at_CM ++ at_CA.take 221, at_Valid at_XI (pw_P L xs) c) : at_Valid at_XI (pw_P L xs) at_q221 := at_chk_ok at_XI_XX (fun m h => by have := h.h40; omega) (fun c hc => by cases hc) lk_t221
theorem lk_v222 (h : ∀ c ∈ at_CM ++ at_CA.take 222, at_Valid at_XI (pw_P L xs) c) : at_Valid at_XI (pw_P L xs) at_q222 := at_chk_ok at_XI_XX (fun m h => by have := h.h40; omega) (List.forall_mem_cons.mpr ⟨h _ (at_pm (i := 179) (by decide) rfl), (List.forall_mem_cons.mpr ⟨h _ (at_pm (i := 184) (by decide) rfl), (fun c hc => by cases hc)⟩)⟩) lk_t222
theorem lk_v223 (_h : ∀ c ∈ at_CM ++ at_CA.take 223, at_Valid at_XI (pw_P L xs) c) : at_Valid at_XI (pw_P L xs) at_q223 := at_chk_ok at_XI_XX (fun m h => by have := h.h40; omega) (fun c hc => by cases hc) lk_t223
theorem lk_v224 (_h : ∀ c ∈ at_CM ++ at_CA.take 224, at_Valid at_XI (pw_P L xs) c) : at_Valid at_XI (pw_P L xs) at_q224 := at_chk_ok at_XI_XX (fun m h => by have := h.h40; omega) (fun c hc => by cases hc) lk_t224
theorem lk_v225 (_h : ∀ c ∈ at_CM ++ at_CA.take 225, at_Valid at_XI (pw_P L xs) c) : at_Valid at_XI (pw_P L xs) at_q225 := at_chk_ok at_XI_XX (fun m h => by have := h.h40; omega) (fun c hc => by cases hc) lk_t225
theorem lk_v226 (_h : ∀ c ∈ at_CM ++ at_CA.take 226, at_Valid at_XI (pw_P L xs) c) : at_Valid at_XI (pw_P L xs) at_q226 := at_chk_ok at_XI_XX (fun m h => by have := h.h40; omega) (fun c hc => by cases hc) lk_t226
theorem lk_v227 (h : ∀ c ∈ at_CM ++ at_CA.take 227, at_Valid at_XI (pw_P L xs) c) : at_Valid at_XI (pw_P L xs) at_q227 := at_chk_ok at_XI_XX (fun m h => by have := h.h40; omega) (List.forall_mem_cons.mpr ⟨h _ (at_pm (i := 179) (by decide) rfl), (List.forall_mem_cons.mpr ⟨h _ (at_pm (i := 184) (by decide) rfl), (List.forall_mem_cons.mpr ⟨h _ (at_pm (i := 204) (by decide) rfl), (fun c hc => by cases hc)⟩)⟩)⟩) lk_t227
theorem lk_v228 (h : ∀ c ∈ at_CM ++ at_CA.take 228, at_Valid at_XI (pw_P L xs) c) : at_Valid at_XI (pw_P L xs) at_q228 := at_chk_ok at_XI_XX (fun m h => by have := h.h40; omega) (List.forall_mem_cons.mpr ⟨h _ (at_pm (i := 195) (by decide) rfl), (fun c hc => by cases hc)⟩) lk_t228
theorem lk_v229 (_h : ∀ c ∈ at_CM ++ at_CA.take 229, at_Valid at_XI (pw_P L xs) c) : at_Valid at_XI (pw_P L xs) at_q229 := at_chk_ok at_XI_XX (fun m h => by have := h.h40; omega) (fun c hc => by cases hc) lk_t229
theorem lk_v230 (h : ∀ c ∈ at_CM ++ at_CA.take 230, at_Valid at_XI (pw_P L xs) c) : at_Valid at_XI (pw_P L xs) at_q230 := at_chk_ok at_XI_XX (fun m h => by have := h.h40; omega) (List.forall_mem_cons.mpr ⟨h _ (at_pm (i := 179) (by decide) rfl), (List.forall_mem_cons.mpr ⟨h _ (at_pm (i := 184) (by decide) rfl), (fun c hc => by cases hc)⟩)⟩) lk_t230
theorem lk_v231 (h : ∀ c ∈ at_CM ++ at_CA.take 231, at_Valid at_XI (pw_P L xs) c) : at_Valid at_XI (pw_P L xs) at_q231 := at_chk_ok at_XI_XX (fun m h => by have := h.h40; omega) (List.forall_mem_cons.mpr ⟨h _ (at_pm (i := 179) (by decide) rfl), (fun c hc => by cases hc)⟩) lk_t231
theorem lk_v232 (h : ∀ c ∈ at_CM ++ at_CA.take 232, at_Valid at_XI (pw_P L xs) c) : at_Valid at_XI (pw_P L xs) at_q232 := at_chk_ok at_XI_XX (fun m h => by have := h.h40; omega) (List.forall_mem_cons.mpr ⟨h _ (at_pm (i := 184) (by decide) rfl), (fun c hc => by cases hc)⟩) lk_t232
theorem lk_v233 (h : ∀ c ∈ at_CM ++ at_CA.take 233, at_Valid at_XI (pw_P L xs) c) : at_Valid at_XI (pw_P L xs) at_q233 := at_chk_ok at_XI_XX (fun m h => by have := h.h40; omega) (List.forall_mem_cons.mpr ⟨h _ (at_pm (i := 200) (by decide) rfl), (fun c hc => by cases hc)⟩) lk_t233
theorem lk_v234 (h : ∀ c ∈ at_CM ++ at_CA.take 234, at_Valid at_XI (pw_P L xs) c) : at_Valid at_XI (pw_P L xs) at_q234 := at_chk_ok at_XI_XX (fun m h => by have := h.h40; omega) (List.forall_mem_cons.mpr ⟨h _ (at_pm (i := 191) (by decide) rfl), (fun c hc => by cases hc)⟩) lk_t234
theorem lk_v235 (h : ∀ c ∈ at_CM ++ at_CA.take 235, at_Valid at_XI (pw_P L xs) c) : at_Valid at_XI (pw_P L xs) at_q235 := at_chk_ok at_XI_XX (fun m h => by have := h.h40; omega) (List.forall_mem_cons.mpr ⟨h _ (at_pm (i := 190) (by decide) rfl), (fun c hc => by cases hc)⟩) lk_t235
theorem lk_v236 (h : ∀ c ∈ at_CM ++ at_CA.take 236, at_Valid at_XI (pw_P L xs) c) : at_Valid at_XI (pw_P L xs) at_q236 := at_chk_ok at_XI_XX (fun m h => by have := h.h40; omega) (List.forall_mem_cons.mpr ⟨h _ (at_pm (i := 204) (by decide) rfl), (fun c hc => by cases hc)⟩) lk_t236
theorem lk_v237 (_h : ∀ c ∈ at_CM ++ at_CA.take 237, at_Valid at_XI (pw_P L xs) c) : at_Valid at_XI (pw_P L xs) at_q237 := at_chk_ok at_XI_XX (fun m h => by have := h.h40; omega) (fun c hc => by cases hc) lk_t237
theorem lk_v238 (_h : ∀ c ∈ at_CM ++ at_CA.take 238, at_Valid at_XI (pw_P L xs) c) : at_Valid at_XI (pw_P L xs) at_q238 := at_chk_ok at_XI_XX (fun m h => by have := h.h40; omega) (fun c hc => by cases hc) lk_t238
theorem lk_v239 (_h : ∀ c ∈ at_CM ++ at_CA.take 239, at_Valid at_XI (pw_P L xs) c) : at_Valid at_XI (pw_P L xs) at_q239 := at_chk_ok at_XI_XX (fun m h => by have := h.h40; omega) (fun c hc => by cases hc) lk_t239
theorem lk_v240 (_h : ∀ c ∈ at_CM ++ at_CA.take 240, at_Valid at_XI (pw_P L xs) c) : at_Valid at_XI (pw_P L xs) at_q240 := at_chk_ok at_XI_XX (fun m h => by have := h.h40; omega) (fun c hc => by cases hc) lk_t240
theorem lk_v241 (h : ∀ c ∈ at_CM ++ at_CA.take 241, at_Valid at_XI (pw_P L xs) c) : at_Valid at_XI (pw_P L xs) at_q241 := at_chk_ok at_XI_XX (fun m h => by have := h.h40; omega) (List.forall_mem_cons.mpr ⟨h _ (at_pm (i := 179) (by decide) rfl), (fun c hc => by cases hc)⟩) lk_t241
theorem lk_v242 (h : ∀ c ∈ at_CM ++ at_CA.take 242, at_Valid at_XI (pw_P L xs) c) : at_Valid at_XI (pw_P L xs) at_q242 := at_chk_ok at_XI_XX (fun m h => by have := h.h40; omega) (List.forall_mem_cons.mpr ⟨h _ (at_pm (i := 179) (by decide) rfl), (fun c hc => by cases hc)⟩) lk_t242
theorem lk_v243 (h : ∀ c ∈ at_CM ++ at_CA.take 243, at_Valid at_XI (pw_P L xs) c) : at_Valid at_XI (pw_P L xs) at_q243 := at_chk_ok at_XI_XX (fun m h => by have := h.h40; omega) (List.forall_mem_cons.mpr ⟨h _ (at_pm (i := 8) (by decide) rfl), (List.forall_mem_cons.mpr ⟨h _ (at_pm (i := 179) (by decide) rfl), (fun c hc => by cases hc)⟩)⟩) lk_t243
theorem lk_v244 (_h : ∀ c ∈ at_CM ++ at_CA.take 244, at_Valid at_XI (pw_P L xs) c) : at_Valid at_XI (pw_P L xs) at_q244 := at_chk_ok at_XI_XX (fun m h => by have := h.h40; omega) (fun c hc => by cases hc) lk_t244
theorem lk_v245 (_h : ∀ c ∈ at_CM ++ at_CA.take 245, at_Valid at_XI (pw_P L xs) c) : at_Valid at_XI (pw_P L xs) at_q245 := at_chk_ok at_XI_XX (fun m h => by have := h.h40; omega) (fun c hc => by cases hc) lk_t245
theorem lk_v246 (_h : ∀ c ∈ at_CM ++ at_CA.take 246, at_Valid at_XI (pw_P L xs) c) : at_Valid at_XI (pw_P L xs) at_q246 := at_chk_ok at_XI_XX (fun m h => by have := h.h40; omega) (fun c hc => by cases hc) lk_t246
theorem lk_v247 (_h : ∀ c ∈ at_CM ++ at_CA.take 247, at_Valid at_XI (pw_P L xs) c) : at_Valid at_XI (pw_P L xs) at_q247 := at_chk_ok at_XI_XX (fun m h => by have := h.h40; omega) (fun c hc => by cases hc) lk_t247
theorem lk_v248 (_h : ∀ c ∈ at_CM ++ at_CA.take 248, at_Valid at_XI (pw_P L xs) c) : at_Valid at_XI (pw_P L xs) at_q248 := at_chk_ok at_XI_XX (fun m h => by have := h.h40; omega) (fun c hc => by cases hc) lk_t248
theorem lk_v249 (h : ∀ c ∈ at_CM ++ at_CA.take 249, at_Valid at_XI (pw_P L xs) c) : at_Valid at_XI (pw_P L xs) at_q249 := at_chk_ok at_XI_XX (fun m h => by have := h.h40; omega) (List.forall_mem_cons.mpr ⟨h _ (at_pm (i := 261) (by decide) rfl), (List.forall_mem_cons.mpr ⟨h _ (at_pm (i := 262) (by decide) rfl), (fun c hc => by cases hc)⟩)⟩) lk_t249
theorem lk_v250 (_h : ∀ c ∈ at_CM ++ at_CA.take 250, at_Valid at_XI (pw_P L xs) c) : at_Valid at_XI (pw_P L xs) at_q250 := at_chk_ok at_XI_XX (fun m h => by have := h.h40; omega) (fun c hc => by cases hc) lk_t250
theorem lk_v251 (h : ∀ c ∈ at_CM ++ at_CA.take 251, at_Valid at_XI (pw_P L xs) c) : at_Valid at_XI (pw_P L xs) at_q251 := at_chk_ok at_XI_XX (fun m h => by have := h.h40; omega) (List.forall_mem_cons.mpr ⟨h _ (at_pm (i := 10) (by decide) rfl), (List.forall_mem_cons.mpr ⟨h _ (at_pm (i := 11) (by decide) rfl), (List.forall_mem_cons.mpr ⟨h _ (at_pm (i := 211) (by decide) rfl), (List.forall_mem_cons.mpr ⟨h _ (at_pm (i := 214) (by decide) rfl), (fun c hc => by cases hc)⟩)⟩)⟩)⟩) lk_t251
theorem lk_v252 (h : ∀ c ∈ at_CM ++ at_CA.take 252, at_Valid at_XI (pw_P L xs) c) : at_Valid at_XI (pw_P L xs) at_q252 := at_chk_ok at_XI_XX (fun m h => by have := h.h40; omega) (List.forall_mem_cons.mpr ⟨h _ (at_pm (i := 10) (by decide) rfl), (List.forall_mem_cons.mpr ⟨h _ (at_pm (i := 11) (by decide) rfl), (List.forall_mem_cons.mpr ⟨h _ (at_pm (i := 214) (by decide) rfl), (List.forall_mem_cons.mpr ⟨h _ (at_pm (i := 234) (by decide) rfl), (fun c hc => by cases hc)⟩)⟩)⟩)⟩) lk_t252
theorem lk_v253 (h : ∀ c ∈ at_CM ++ at_CA.take 253, at_Valid at_XI (pw_P L xs) c) : at_Valid at_XI (pw_P L xs) at_q253 := at_chk_ok at_XI_XX (fun m h => by have := h.h40; omega) (List.forall_mem_cons.mpr ⟨h _ (at_pm (i := 10) (by decide) rfl), (List.forall_mem_cons.mpr ⟨h _ (at_pm (i := 11) (by decide) rfl), (List.forall_mem_cons.mpr ⟨h _ (at_pm (i := 211) (by decide) rfl), (List.forall_mem_cons.mpr ⟨h _ (at_pm (i := 230) (by decide) rfl), (fun c hc => by cases hc)⟩)⟩)⟩)⟩) lk_t253
theorem lk_v254 (h : ∀ c ∈ at_CM ++ at_CA.take 254, at_Valid at_XI (pw_P L xs) c) : at_Valid at_XI (pw_P L xs) at_q254 := at_chk_ok at_XI_XX (fun m h => by have := h.h40; omega) (List.forall_mem_cons.mpr ⟨h _ (at_pm (i := 10) (by decide) rfl), (List.forall_mem_cons.mpr ⟨h _ (at_pm (i := 11) (by decide) rfl), (List.forall_mem_cons.mpr ⟨h _ (at_pm (i := 213) (by decide) rfl), (fun c hc => by cases hc)⟩)⟩)⟩) lk_t254
theorem lk_v255 (h : ∀ c ∈ at_CM ++ at_CA.take 255, at_Valid at_XI (pw_P L xs) c) : at_Valid at_XI (pw_P L xs) at_q255 := at_chk_ok at_XI_XX (fun m h => by have := h.h40; omega) (List.forall_mem_cons.mpr ⟨h _ (at_pm (i := 10) (by decide) rfl), (List.forall_mem_cons.mpr ⟨h _ (at_pm (i := 11) (by decide) rfl), (List.forall_mem_cons.mpr ⟨h _ (at_pm (i := 213) (by decide) rfl), (fun c hc => by cases hc)⟩)⟩)⟩) lk_t255
theorem lk_v256 (h : ∀ c ∈ at_CM ++ at_CA.take 256, at_Valid at_XI (pw_P L xs) c) : at_Valid at_XI (pw_P L xs) at_q256 := at_chk_ok at_XI_XX (fun m h => by have := h.h40; omega) (List.forall_mem_cons.mpr ⟨h _ (at_pm (i := 10) (by decide) rfl), (List.forall_mem_cons.mpr ⟨h _ (at_pm (i := 11) (by decide) rfl), (List.forall_mem_cons.mpr ⟨h _ (at_pm (i := 213) (by decide) rfl), (fun c hc => by cases hc)⟩)⟩)⟩) lk_t256
theorem lk_v257 (h : ∀ c ∈ at_CM ++ at_CA.take 257, at_Valid at_XI (pw_P L xs) c) : at_Valid at_XI (pw_P L xs) at_q257 := at_chk_ok at_XI_XX (fun m h => by have := h.h40; omega) (List.forall_mem_cons.mpr ⟨h _ (at_pm (i := 270) (by decide) rfl), (fun c hc => by cases hc)⟩) lk_t257
theorem lk_v258 (h : ∀ c ∈ at_CM ++ at_CA.take 258, at_Valid at_XI (pw_P L xs) c) : at_Valid at_XI (pw_P L xs) at_q258 := at_chk_ok at_XI_XX (fun m h => by have := h.h40; omega) (List.forall_mem_cons.mpr ⟨h _ (at_pm (i := 10) (by decide) rfl), (List.forall_mem_cons.mpr ⟨h _ (at_pm (i := 11) (by decide) rfl), (List.forall_mem_cons.mpr ⟨h _ (at_pm (i := 213) (by decide) rfl), (fun c hc => by cases hc)⟩)⟩)⟩) lk_t258
theorem lk_v259 (h : ∀ c ∈ at_CM ++ at_CA.take 259, at_Valid at_XI (pw_P L xs) c) : at_Valid at_XI (pw_P L xs) at_q259 := at_chk_ok at_XI_XX (fun m h => by have := h.h40; omega) (List.forall_mem_cons.mpr ⟨h _ (at_pm (i := 10) (by decide) rfl), (List.forall_mem_cons.mpr ⟨h _ (at_pm (i := 11) (by decide) rfl), (List.forall_mem_cons.mpr ⟨h _ (at_pm (i := 204) (by decide) rfl), (List.forall_mem_cons.mpr ⟨h _ (at_pm (i := 214) (by decide) rfl), (fun c hc => by cases hc)⟩)⟩)⟩)⟩) lk_t259
theorem lk_v260 (_h : ∀ c ∈ at_CM ++ at_CA.take 260, at_Valid at_XI (pw_P L xs) c) : at_Valid at_XI (pw_P L xs) at_q260 := at_chk_ok at_XI_XX (fun m h => by have := h.h40; omega) (fun c hc => by cases hc) lk_t260
theorem lk_v261 (h : ∀ c ∈ at_CM ++ at_CA.take 261, at_Valid at_XI (pw_P L xs) c) : at_Valid at_XI (pw_P L xs) at_q261 := at_chk_ok at_XI_XX (fun m h => by have := h.h40; omega) (List.forall_mem_cons.mpr ⟨h _ (at_pm (i := 10) (by decide) rfl), (List.forall_mem_cons.mpr ⟨h _ (at_pm (i := 11) (by decide) rfl), (List.forall_mem_cons.mpr ⟨h _ (at_pm (i := 213) (by decide) rfl), (List.forall_mem_cons.mpr ⟨h _ (at_pm (i := 274) (by decide) rfl), (fun c hc => by cases hc)⟩)⟩)⟩)⟩) lk_t261
theorem lk_v262 (h : ∀ c ∈ at_CM ++ at_CA.take 262, at_Valid at_XI (pw_P L xs) c) : at_Valid at_XI (pw_P L xs) at_q262 := at_chk_ok at_XI_XX (fun m h => by have := h.h40; omega) (List.forall_mem_cons.mpr ⟨h _ (at_pm (i := 10) (by decide) rfl), (List.forall_mem_cons.mpr ⟨h _ (at_pm (i := 11) (by decide) rfl), (List.forall_mem_cons.mpr ⟨h _ (at_pm (i := 204) (by decide) rfl), (List.forall_mem_cons.mpr ⟨h _ (at_pm (i := 214) (by decide) rfl), (fun c hc => by cases hc)⟩)⟩)⟩)⟩) lk_t262
theorem lk_v263 (_h : ∀ c ∈ at_CM ++ at_CA.take 263, at_Valid at_XI (pw_P L xs) c) : at_Valid at_XI (pw_P L xs) at_q263 := at_chk_ok at_XI_XX (fun m h => by have := h.h40; omega) (fun c hc => by cases hc) lk_t263
theorem at_vk : ∀ k : Nat, k < 264 → (∀ c ∈ at_CM ++ at_CA.take k, at_Valid at_XI (pw_P L xs) c) → at_Valid at_XI (pw_P L xs) (at_CA.getD k at_dC)
  | 0, _, h => lk_v0 h
  | 1, _, h => lk_v1 h
  | 2, _, h => lk_v2 h
  | 3, _, h => lk_v3 h
  | 4, _, h => lk_v4 h
  | 5, _, h => lk_v5 h
  | 6, _, h => lk_v6 h
  | 7, _, h => lk_v7 h
  | 8, _, h => lk_v8 h
  | 9, _, h => lk_v9 h
  | 10, _, h => lk_v10 h
  | 11, _, h => lk_v11 h
  | 12, _, h => lk_v12 h
  | 13, _, h => lk_v13 h
  | 14, _, h => lk_v14 h
  | 15, _, h => lk_v15 h
  | 16, _, h => lk_v16 h
  | 17, _, h => lk_v17 h
  | 18, _, h => lk_v18 h
  | 19, _, h => lk_v19 h
  | 20, _, h => lk_v20 h
  | 21, _, h => lk_v21 h
  | 22, _, h => lk_v22 h
  | 23, _, h => lk_v23 h
  | 24, _, h => lk_v24 h
  | 25, _, h => lk_v25 h
  | 26, _, h => lk_v26 h
  | 27, _, h => lk_v27 h
  | 28, _, h => lk_v28 h
  | 29, _, h => lk_v29 h
  | 30, _, h => lk_v30 h
  | 31, _, h => lk_v31 h
  | 32, _, h => lk_v32 h
  | 33, _, h => lk_v33 h
  | 34, _, h => lk_v34 h
  | 35, _, h => lk_v35 h
  | 36, _, h => lk_v36 h
  | 37, _, h => lk_v37 h
  | 38, _, h => lk_v38 h
  | 39, _, h => lk_v39 h
  | 40, _, h => lk_v40 h
  | 41, _, h => lk_v41 h
  | 42, _, h => lk_v42 h
  | 43, _, h => lk_v43 h
  | 44, _, h => lk_v44 h
  | 45, _, h => lk_v45 h
  | 46, _, h => lk_v46 h
  | 47, _, h => lk_v47 h
  | 48, _, h => lk_v48 h
  | 49, _, h => lk_v49 h
  | 50, _, h => lk_v50 h
  | 51, _, h => lk_v51 h
  | 52, _, h => lk_v52 h
  | 53, _, h => lk_v53 h
  | 54, _, h => lk_v54 h
  | 55, _, h => lk_v55 h
  | 56, _, h => lk_v56 h
  | 57, _, h => lk_v57 h
  | 58, _, h => lk_v58 h
  | 59, _, h => lk_v59 h
  | 60, _, h => lk_v60 h
  | 61, _, h => lk_v61 h
  | 62, _, h => lk_v62 h
  | 63, _, h => lk_v63 h
  | 64, _, h => lk_v64 h
  | 65, _, h => lk_v65 h
  | 66, _, h => lk_v66 h
  | 67, _, h => lk_v67 h
  | 68, _, h => lk_v68 h
  | 69, _, h => lk_v69 h
  | 70, _, h => lk_v70 h
  | 71, _, h => lk_v71 h
  | 72, _, h => lk_v72 h
  | 73, _, h => lk_v73 h
  | 74, _, h => lk_v74 h
  | 75, _, h => lk_v75 h
  | 76, _, h => lk_v76 h
  | 77, _, h => lk_v77 h
  | 78, _, h => lk_v78 h
  | 79, _, h => lk_v79 h
  | 80, _, h => lk_v80 h
  | 81, _, h => lk_v81 h
  | 82, _, h => lk_v82 h
  | 83, _, h => lk_v83 h
  | 84, _, h => lk_v84 h
  | 85, _, h => lk_v85 h
  | 86, _, h => lk_v86 h
  | 87, _, h => lk_v87 h
  | 88, _, h => lk_v88 h
  | 89, _, h => lk_v89 h
  | 90, _, h => lk_v90 h
  | 91, _, h => lk_v91 h
  | 92, _, h => lk_v92 h
  | 93, _, h => lk_v93 h
  | 94, _, h => lk_v94 h
  | 95, _, h => lk_v95 h
  | 96, _, h => lk_v96 h
  | 97, _, h => lk_v97 h
  | 98, _, h => lk_v98 h
  | 99, _, h => lk_v99 h
  | 100, _, h => lk_v100 h
  | 101, _, h => lk_v101 h
  | 102, _, h => lk_v102 h
  | 103, _, h => lk_v103 h
  | 104, _, h => lk_v104 h
  | 105, _, h => lk_v105 h
  | 106, _, h => lk_v106 h
  | 107, _, h => lk_v107 h
  | 108, _, h => lk_v108 h
  | 109, _, h => lk_v109 h
  | 110, _, h => lk_v110 h
  | 111, _, h => lk_v111 h
  | 112, _, h => lk_v112 h
  | 113, _, h => lk_v113 h
  | 114, _, h => lk_v114 h
  | 115, _, h => lk_v115 h
  | 116, _, h => lk_v116 h
  | 117, _, h => lk_v117 h
  | 118, _, h => lk_v118 h
  | 119, _, h => lk_v119 h
  | 120, _, h => lk_v120 h
  | 121, _, h => lk_v121 h
  | 122, _, h => lk_v122 h
  | 123, _, h => lk_v123 h
  | 124, _, h => lk_v124 h
  | 125, _, h => lk_v125 h
  | 126, _, h => lk_v126 h
  | 127, _, h => lk_v127 h
  | 128, _, h => lk_v128 h
  | 129, _, h => lk_v129 h
  | 130, _, h => lk_v130 h
  | 131, _, h => lk_v131 h
  | 132, _, h => lk_v132 h
  | 133, _, h => lk_v133 h
  | 134, _, h => lk_v134 h
  | 135, _, h => lk_v135 h
  | 136, _, h => lk_v136 h
  | 137, _, h => lk_v137 h
  | 138, _, h => lk_v138 h
  | 139, _, h => lk_v139 h
  | 140, _, h => lk_v140 h
  | 141, _, h => lk_v141 h
  | 142, _, h => lk_v142 h
  | 143, _, h => lk_v143 h
  | 144, _, h => lk_v144 h
  | 145, _, h => lk_v145 h
  | 146, _, h => lk_v146 h
  | 147, _, h => lk_v147 h
  | 148, _, h => lk_v148 h
  | 149, _, h => lk_v149 h
  | 150, _, h => lk_v150 h
  | 151, _, h => lk_v151 h
  | 152, _, h => lk_v152 h
  | 153, _, h => lk_v153 h
  | 154, _, h => lk_v154 h
  | 155, _, h => lk_v155 h
  | 156, _, h => lk_v156 h
  | 157, _, h => lk_v157 h
  | 158, _, h => lk_v158 h
  | 159, _, h => lk_v159 h
  | 160, _, h => lk_v160 h
  | 161, _, h => lk_v161 h
  | 162, _, h => lk_v162 h
  | 163, _, h => lk_v163 h
  | 164, _, h => lk_v164 h
  | 165, _, h => lk_v165 h
  | 166, _, h => lk_v166 h
  | 167, _, h => lk_v167 h
  | 168, _, h => lk_v168 h
  | 169, _, h => lk_v169 h
  | 170, _, h => lk_v170 h
  | 171, _, h => lk_v171 h
  | 172, _, h => lk_v172 h
  | 173, _, h => lk_v173 h
  | 174, _, h => lk_v174 h
  | 175, _, h => lk_v175 h
  | 176, _, h => lk_v176 h
  | 177, _, h => lk_v177 h
  | 178, _, h => lk_v178 h
  | 179, _, h => lk_v179 h
  | 180, _, h => lk_v180 h
  | 181, _, h => lk_v181 h
  | 182, _, h => lk_v182 h
  | 183, _, h => lk_v183 h
  | 184, _, h => lk_v184 h
  | 185, _, h => lk_v185 h
  | 186, _, h => lk_v186 h
  | 187, _, h => lk_v187 h
  | 188, _, h => lk_v188 h
  | 189, _, h => lk_v189 h
  | 190, _, h => lk_v190 h
  | 191, _, h => lk_v191 h
  | 192, _, h => lk_v192 h
  | 193, _, h => lk_v193 h
  | 194, _, h => lk_v194 h
  | 195, _, h => lk_v195 h
  | 196, _, h => lk_v196 h
  | 197, _, h => lk_v197 h
  | 198, _, h => lk_v198 h
  | 199, _, h => lk_v199 h
  | 200, _, h => lk_v200 h
  | 201, _, h => lk_v201 h
  | 202, _, h => lk_v202 h
  | 203, _, h => lk_v203 h
  | 204, _, h => lk_v204 h
  | 205, _, h => lk_v205 h
  | 206, _, h => lk_v206 h
  | 207, _, h => lk_v207 h
  | 208, _, h => lk_v208 h
  | 209, _, h => lk_v209 h
  | 210, _, h => lk_v210 h
  | 211, _, h => lk_v211 h
  | 212, _, h => lk_v212 h
  | 213, _, h => lk_v213 h
  | 214, _, h => lk_v214 h
  | 215, _, h => lk_v215 h
  | 216, _, h => lk_v216 h
  | 217, _, h => lk_v217 h
  | 218, _, h => lk_v218 h
  | 219, _, h => lk_v219 h
  | 220, _, h => lk_v220 h
  | 221, _, h => lk_v221 h
  | 222, _, h => lk_v222 h
  | 223, _, h => lk_v223 h
  | 224, _, h => lk_v224 h
  | 225, _, h => lk_v225 h
  | 226, _, h => lk_v226 h
  | 227, _, h => lk_v227 h
  | 228, _, h => lk_v228 h
  | 229, _, h => lk_v229 h
  | 230, _, h => lk_v230 h
  | 231, _, h => lk_v231 h
  | 232, _, h => lk_v232 h
  | 233, _, h => lk_v233 h
  | 234, _, h => lk_v234 h
  | 235, _, h => lk_v235 h
  | 236, _, h => lk_v236 h
  | 237, _, h => lk_v237 h
  | 238, _, h => lk_v238 h
  | 239, _, h => lk_v239 h
  | 240, _, h => lk_v240 h
  | 241, _, h => lk_v241 h
  | 242, _, h => lk_v242 h
  | 243, _, h => lk_v243 h
  | 244, _, h => lk_v244 h
  | 245, _, h => lk_v245 h
  | 246, _, h => lk_v246 h
  | 247, _, h => lk_v247 h
  | 248, _, h => lk_v248 h
  | 249, _, h => lk_v249 h
  | 250, _, h => lk_v250 h
  | 251, _, h => lk_v251 h
  | 252, _, h => lk_v252 h
  | 253, _, h => lk_v253 h
  | 254, _, h => lk_v254 h
  | 255, _, h => lk_v255 h
  | 256, _, h => lk_v256 h
  | 257, _, h => lk_v257 h
  | 258, _, h => lk_v258 h
  | 259, _, h => lk_v259 h
  | 260, _, h => lk_v260 h
  | 261, _, h => lk_v261 h
  | 262, _, h => lk_v262 h
  | 263, _, h => lk_v263 h
  | n + 264, h, _ => absurd h (by omega)
end ATHV
section ATHL
variable {L : Nat} {xs : Nat → Int32}
theorem at_hCM : ∀ c ∈ at_CM, at_Valid at_XI (pw_P L xs) c :=
  List.forall_mem_cons.mpr ⟨at_v24, List.forall_mem_cons.mpr ⟨at_v156, List.forall_mem_cons.mpr ⟨at_v157, List.forall_mem_cons.mpr ⟨at_v242, List.forall_mem_cons.mpr ⟨at_v241, List.forall_mem_cons.mpr ⟨at_v217, List.forall_mem_cons.mpr ⟨at_v292, List.forall_mem_cons.mpr ⟨at_v293, List.forall_mem_cons.mpr ⟨at_v296, List.forall_mem_cons.mpr ⟨at_v308, List.forall_mem_cons.mpr ⟨at_v238, List.forall_mem_cons.mpr ⟨at_v239, List.forall_mem_cons.mpr ⟨at_v323, List.forall_mem_cons.mpr ⟨at_v324, fun c hc => by cases hc⟩⟩⟩⟩⟩⟩⟩⟩⟩⟩⟩⟩⟩⟩
theorem at_CA_len : at_CA.length = 264 := by decide +kernel
theorem at_pre : ∀ k : Nat, k ≤ 264 → ∀ c ∈ at_CM ++ at_CA.take k, at_Valid at_XI (pw_P L xs) c := by
  intro k
  induction k with
  | zero =>
    intro _ c hc
    rw [List.take_zero, List.append_nil] at hc
    exact at_hCM c hc
  | succ k ih =>
    intro hk c hc
    have h := ih (by omega)
    have hlt : k < at_CA.length := by rw [at_CA_len]; omega
    have hd : at_Valid at_XI (pw_P L xs) (at_CA.getD k at_dC) := at_vk k (by omega) h
    rw [List.take_succ_eq_append_getElem hlt, ← List.append_assoc] at hc
    rcases List.mem_append.mp hc with h1 | h1
    · exact h c h1
    · rw [List.mem_singleton.mp h1]
      have e : at_CA.getD k at_dC = at_CA[k] := by rw [List.getD_eq_getElem?_getD, List.getElem?_eq_getElem hlt]; rfl
      rw [← e]
      exact hd
theorem at_hall : ∀ c ∈ at_CM ++ at_CA, at_Valid at_XI (pw_P L xs) c := by
  have h := at_pre (L := L) (xs := xs) 264 (Nat.le_refl _)
  rw [List.take_of_length_le (by rw [at_CA_len]; exact Nat.le_refl _)] at h
  exact h
end ATHL

end

/-! 91.00.walk.lean.txt -/
section
/-! ===== steps with their ends written out (for wip/gen/walk2.py) ===== -/
abbrev t2_F : Type := Nat → Nat → Int32
abbrev t2_L : Type := (Nat → Nat → Int64) × Nat
section T2K
variable {P : am_Pg} {mi pc i k p τ n : Nat} {z : Nat × Nat × Nat} {lv : fl_L} {r : List fl_V} {m : fl_M} {f f' : t2_F} {l : t2_L} {v x y ix c : Int32} {Q : Option fl_V → fl_M → Prop}
theorem fl_Tq.cI {n : Int} {st : List fl_V} (hc : am_code P mi pc = some (.iconst n)) (e : Int32.ofInt n = c) (hok : ∀ u ∈ st, fl_ok m.2.2 u) (q : fl_Tq P mi (pc + 1) lv (.inl c :: st) m Q) : fl_Tq P mi pc lv st m Q := by
  subst e
  exact fl_Tq.stp hc rfl hok rfl q
theorem fl_Tq.cB {n : Int} {st : List fl_V} (hc : am_code P mi pc = some (.bipush n)) (e : (Int8.ofInt n).toInt32 = c) (hok : ∀ u ∈ st, fl_ok m.2.2 u) (q : fl_Tq P mi (pc + 2) lv (.inl c :: st) m Q) : fl_Tq P mi pc lv st m Q := by
  subst e
  exact fl_Tq.stp hc rfl hok rfl q
theorem fl_Tq.cS {n : Int} {st : List fl_V} (hc : am_code P mi pc = some (.sipush n)) (e : (Int16.ofInt n).toInt32 = c) (hok : ∀ u ∈ st, fl_ok m.2.2 u) (q : fl_Tq P mi (pc + 3) lv (.inl c :: st) m Q) : fl_Tq P mi pc lv st m Q := by
  subst e
  exact fl_Tq.stp hc rfl hok rfl q
theorem fl_Tq.gfV (hc : am_code P mi pc = some (.getfield i)) (hok : ∀ u ∈ (.inr (.inr (.inl (τ, p))) :: r : List fl_V), fl_ok l.2 u) (hst : fl_gf P (am_own P mi) i pc lv (.inr (.inr (.inl (τ, p))) :: r) (f, l) = some (pc + 3, lv, .inl (f p k) :: r, (f, l))) (hv : f p k = v) (q : fl_Tq P mi (pc + 3) lv (.inl v :: r) (f, l) Q) : fl_Tq P mi pc lv (.inr (.inr (.inl (τ, p))) :: r) (f, l) Q := by
  subst hv
  exact fl_Tq.stp hc rfl hok hst q
theorem fl_Tq.pfV {m' : fl_M} (hc : am_code P mi pc = some (.putfield i)) (hok : ∀ u ∈ (.inl x :: .inr (.inr (.inl (τ, p))) :: r : List fl_V), fl_ok l.2 u) (hst : fl_pf P mi (am_own P mi) i pc lv (.inl x :: .inr (.inr (.inl (τ, p))) :: r) (f, l) = some (pc + 3, lv, r, (fl_up f p k x, l))) (hm : ((fl_up f p k x, l) : fl_M) = m') (q : fl_Tq P mi (pc + 3) lv r m' Q) : fl_Tq P mi pc lv (.inl x :: .inr (.inr (.inl (τ, p))) :: r) (f, l) Q := by
  subst hm
  exact fl_Tq.stp hc rfl hok hst q
theorem fl_Tq.ldV (hc : am_code P mi pc = some .iaload) (hok : ∀ u ∈ (.inl ix :: .inr (.inr (.inl (τ, p))) :: r : List fl_V), fl_ok l.2 u) (hk : fk_kd τ = .inr (0, n, z)) (hi : ix.toInt = k) (hlt : k < n) (hv : f p k = v) (q : fl_Tq P mi (pc + 1) lv (.inl v :: r) (f, l) Q) : fl_Tq P mi pc lv (.inl ix :: .inr (.inr (.inl (τ, p))) :: r) (f, l) Q := by
  subst hv
  exact fl_Tq.ld (m := (f, l)) hc hok hk hi hlt q
theorem fl_Tq.svV {m' : fl_M} (hc : am_code P mi pc = some .iastore) (hok : ∀ u ∈ (.inl x :: .inl ix :: .inr (.inr (.inl (τ, p))) :: r : List fl_V), fl_ok l.2 u) (hk : fk_kd τ = .inr (0, n, z)) (hi : ix.toInt = k) (hlt : k < n) (hm : ((fl_up f p k x, l) : fl_M) = m') (q : fl_Tq P mi (pc + 1) lv r m' Q) : fl_Tq P mi pc lv (.inl x :: .inl ix :: .inr (.inr (.inl (τ, p))) :: r) (f, l) Q := by
  subst hm
  exact fl_Tq.sv (m := (f, l)) hc hok hk hi hlt q
theorem upd_self {w : Nat → Int32} : upd w k x k = x := by unfold upd; rw [if_pos rfl]
theorem upd_ne {w : Nat → Int32} {j : Nat} (h : j ≠ k) : upd w k x j = w j := by unfold upd; rw [if_neg h]
theorem t2_upn {w : Nat → Int32} (h : f p = w) : ((fl_up f p k x, l) : fl_M) = (fl_row f p (upd w k x), l) := by
  rw [fl_up_row, h]
theorem t2_upr {w : Nat → Int32} : ((fl_up (fl_row f p w) p k x, l) : fl_M) = (fl_row f p (upd w k x), l) := by
  rw [fl_up_row, fl_row_self]
  refine Prod.ext ?_ rfl
  funext q j
  show (if q = p then upd w k x j else if q = p then w j else f q j) = (if q = p then upd w k x j else f q j)
  by_cases h : q = p
  · rw [if_pos h, if_pos h]
  · rw [if_neg h, if_neg h, if_neg h]
theorem t2_upo {w : Nat → Int32} {x0 : Int32} : ((fl_up (fl_row f p (upd w k x0)) p k x, l) : fl_M) = (fl_row f p (upd w k x), l) := by
  rw [fl_up_row, fl_row_self]
  refine Prod.ext ?_ rfl
  funext q j
  show (if q = p then upd (upd w k x0) k x j else if q = p then upd w k x0 j else f q j) = (if q = p then upd w k x j else f q j)
  by_cases h : q = p
  · rw [if_pos h, if_pos h]
    unfold upd
    by_cases h2 : j = k
    · rw [if_pos h2, if_pos h2]
    · rw [if_neg h2, if_neg h2, if_neg h2]
  · rw [if_neg h, if_neg h, if_neg h]
theorem t2_iap {c : Prop} [Decidable c] {a b : t2_F} {p k : Nat} : (if c then a else b) p k = if c then a p k else b p k := by
  split <;> rfl
theorem fl_Tq.cpy {P : am_Pg} {mi pc i a b n0 n1 τa τb SP DP N : Nat} {za zb : Nat × Nat × Nat} {lv : fl_L} {r : List fl_V} {f : t2_F} {l : t2_L} {n dp sp : Int32} {wa wb : Nat → Int32} {Q : Option fl_V → fl_M → Prop} (hc : am_code P mi pc = some (.invokestatic i)) (hcl : am_cl P mi (.invokestatic i) = none) (hnt : am_ntk P mi (.invokestatic i) = some 1) (hok : ∀ u ∈ (.inl n :: .inl dp :: .inr (.inr (.inl (τb, b))) :: .inl sp :: .inr (.inr (.inl (τa, a))) :: r : List fl_V), fl_ok l.2 u) (ka : fk_kd τa = .inr (0, n0, za)) (kb : fk_kd τb = .inr (0, n1, zb)) (es : sp.toNatClampNeg = SP) (ed : dp.toNatClampNeg = DP) (en : n.toNatClampNeg = N) (hb : (decide (fl_sum r ≤ 8) && (!(decide (sp < 0)) && (!(decide (dp < 0)) && (!(decide (n < 0)) && (decide (SP + N ≤ n0) && decide (DP + N ≤ n1)))))) = true) (ha : f a = wa) (hbb : f b = wb) (q : fl_Tq P mi (pc + 3) lv r (fl_row f b (va_cpy wa wb SP DP N), l) Q) : fl_Tq P mi pc lv (.inl n :: .inl dp :: .inr (.inr (.inl (τb, b))) :: .inl sp :: .inr (.inr (.inl (τa, a))) :: r) (f, l) Q := by
  subst ha hbb es ed en
  refine fl_Tq.stp (pc' := pc + 3) (lv' := lv) (st' := r) (m' := (fl_row f b (va_cpy (f a) (f b) sp.toNatClampNeg dp.toNatClampNeg n.toNatClampNeg), l)) hc hcl hok ?_ q
  show (match am_ntk P mi (.invokestatic i) with | some 1 => fl_n1 pc lv _ _ | _ => none) = _
  rw [hnt]
  show (match fk_kd τa, fk_kd τb with | .inr (0, n0, _), .inr (0, n1, _) => bif decide (fl_sum r ≤ 8) && (!(decide (sp < 0)) && (!(decide (dp < 0)) && (!(decide (n < 0)) && (decide (sp.toNatClampNeg + n.toNatClampNeg ≤ n0) && decide (dp.toNatClampNeg + n.toNatClampNeg ≤ n1))))) then some (pc + 3, lv, r, ((fl_row f b (va_cpy (f a) (f b) sp.toNatClampNeg dp.toNatClampNeg n.toNatClampNeg), l) : fl_M)) else none | _, _ => none) = _
  rw [ka, kb]
  show (bif _ then _ else _) = _
  rw [hb]
  rfl
theorem t2_tn (x : Int32) : x.toInt.toNat ≤ 2147483647 := by
  have := at_i32 x
  omega
/-- while: so many rounds at most -/
def t2_wf (g : t2_F → Option t2_F) : Nat → t2_F → t2_F
  | 0, f => f
  | n + 1, f => match g f with
    | none => f
    | some f' => t2_wf g n f'
theorem t2_wh {g : t2_F → Option t2_F} {I : t2_F → Prop} {μ : t2_F → Nat} {S E : t2_F → Prop} (hI : ∀ f f' : t2_F, I f → g f = some f' → I f' ∧ μ f' < μ f) (hs : ∀ f : t2_F, I f → (g f = none → E f) → (∀ f' : t2_F, g f = some f' → S f') → S f) : ∀ (n : Nat) (f : t2_F), I f → μ f ≤ n → E (t2_wf g n f) → S f := by
  intro n
  induction n with
  | zero =>
    intro f h0 hm he
    refine hs f h0 (fun _ => he) (fun f' e => ?_)
    have := (hI f f' h0 e).2
    omega
  | succ n ih =>
    intro f h0 hm he
    refine hs f h0 (fun e => ?_) (fun f' e => ?_)
    · unfold t2_wf at he
      rw [e] at he
      exact he
    · obtain ⟨h1, h2⟩ := hI f f' h0 e
      unfold t2_wf at he
      rw [e] at he
      exact ih f' h1 (by omega) he
theorem t2_wf_k {g : t2_F → Option t2_F} {p k : Nat} (h : ∀ f f' : t2_F, g f = some f' → f' p k = f p k) : ∀ (n : Nat) (f : t2_F), t2_wf g n f p k = f p k := by
  intro n
  induction n with
  | zero => intro f; rfl
  | succ n ih =>
    intro f
    unfold t2_wf
    cases e : g f with
    | none => rfl
    | some f' => exact (ih f').trans (h f f' e)
theorem t2_wf_p {g : t2_F → Option t2_F} {p : Nat} (h : ∀ f f' : t2_F, g f = some f' → f' p = f p) (n : Nat) (f : t2_F) : t2_wf g n f p = f p := funext fun k => t2_wf_k (fun f f' e => by rw [h f f' e]) n f
theorem c2_lt_t (h : x.toInt < y.toInt) : am_c2 .lt x y = true := by rw [at_c2]; exact decide_eq_true (by omega)
theorem c2_lt_f (h : ¬ (x.toInt < y.toInt)) : am_c2 .lt x y = false := by rw [at_c2]; exact decide_eq_false (by omega)
theorem c2_ge_f (h : x.toInt < y.toInt) : am_c2 .ge x y = false := by rw [at_c2]; exact decide_eq_false (by omega)
theorem c2_ge_t (h : ¬ (x.toInt < y.toInt)) : am_c2 .ge x y = true := by rw [at_c2]; exact decide_eq_true (by omega)
theorem c2_gt_t (h : y.toInt < x.toInt) : am_c2 .gt x y = true := by rw [at_c2]; exact decide_eq_true (by omega)
theorem c2_gt_f (h : ¬ (y.toInt < x.toInt)) : am_c2 .gt x y = false := by rw [at_c2]; exact decide_eq_false (by omega)
theorem c2_le_f (h : y.toInt < x.toInt) : am_c2 .le x y = false := by rw [at_c2]; exact decide_eq_false (by omega)
theorem c2_le_t (h : ¬ (y.toInt < x.toInt)) : am_c2 .le x y = true := by rw [at_c2]; exact decide_eq_true (by omega)
theorem c2_eq_t (h : x.toInt = y.toInt) : am_c2 .eq x y = true := by rw [at_c2]; exact decide_eq_true (by omega)
theorem c2_eq_f (h : ¬ (x.toInt = y.toInt)) : am_c2 .eq x y = false := by rw [at_c2]; exact decide_eq_false (by omega)
theorem c2_ne_f (h : x.toInt = y.toInt) : am_c2 .ne x y = false := by rw [at_c2]; show (!decide _) = false; rw [decide_eq_true (by omega)]; rfl
theorem c2_ne_t (h : ¬ (x.toInt = y.toInt)) : am_c2 .ne x y = true := by rw [at_c2]; show (!decide _) = true; rw [decide_eq_false (by omega)]; rfl
theorem c1_lt_t (h : x.toInt < 0) : am_c1 .lt x = true := by rw [at_c1]; exact decide_eq_true (by omega)
theorem c1_lt_f (h : ¬ (x.toInt < 0)) : am_c1 .lt x = false := by rw [at_c1]; exact decide_eq_false (by omega)
theorem c1_ge_f (h : x.toInt < 0) : am_c1 .ge x = false := by rw [at_c1]; exact decide_eq_false (by omega)
theorem c1_ge_t (h : ¬ (x.toInt < 0)) : am_c1 .ge x = true := by rw [at_c1]; exact decide_eq_true (by omega)
theorem c1_gt_t (h : 0 < x.toInt) : am_c1 .gt x = true := by rw [at_c1]; exact decide_eq_true (by omega)
theorem c1_gt_f (h : ¬ (0 < x.toInt)) : am_c1 .gt x = false := by rw [at_c1]; exact decide_eq_false (by omega)
theorem c1_le_f (h : 0 < x.toInt) : am_c1 .le x = false := by rw [at_c1]; exact decide_eq_false (by omega)
theorem c1_le_t (h : ¬ (0 < x.toInt)) : am_c1 .le x = true := by rw [at_c1]; exact decide_eq_true (by omega)
theorem c1_eq_t (h : x.toInt = 0) : am_c1 .eq x = true := by rw [at_c1]; exact decide_eq_true h
theorem c1_eq_f (h : ¬ (x.toInt = 0)) : am_c1 .eq x = false := by rw [at_c1]; exact decide_eq_false h
theorem c1_ne_f (h : x.toInt = 0) : am_c1 .ne x = false := by rw [at_c1]; show (!decide _) = false; rw [decide_eq_true h]; rfl
theorem c1_ne_t (h : ¬ (x.toInt = 0)) : am_c1 .ne x = true := by rw [at_c1]; show (!decide _) = true; rw [decide_eq_false h]; rfl
end T2K

end

/-! 91.01.kinds.lean.txt -/
section
theorem t2_kc0 {h i : Nat} (hi : i < 16) : fl_ok h (.inr (.inr (.inl (18, 18 + 4 * i)))) := by
  refine fl_okp ?_ (by omega)
  have H : (List.range 16).all (fun i => Nat.beq (fk_K (18 + 4 * i)) 18) = true := by decide +kernel
  exact Nat.eq_of_beq_eq_true (List.all_eq_true.mp H i (List.mem_range.mpr hi))
theorem t2_kt0 {h i : Nat} (hi : i < 16) : fl_ok h (.inr (.inr (.inl (19, 19 + 4 * i)))) := by
  refine fl_okp ?_ (by omega)
  have H : (List.range 16).all (fun i => Nat.beq (fk_K (19 + 4 * i)) 19) = true := by decide +kernel
  exact Nat.eq_of_beq_eq_true (List.all_eq_true.mp H i (List.mem_range.mpr hi))
theorem t2_ka0 {h i : Nat} (hi : i < 16) : fl_ok h (.inr (.inr (.inl (20, 20 + 4 * i)))) := by
  refine fl_okp ?_ (by omega)
  have H : (List.range 16).all (fun i => Nat.beq (fk_K (20 + 4 * i)) 20) = true := by decide +kernel
  exact Nat.eq_of_beq_eq_true (List.all_eq_true.mp H i (List.mem_range.mpr hi))
theorem t2_ky0 {h i : Nat} (hi : i < 16) : fl_ok h (.inr (.inr (.inl (21, 21 + 4 * i)))) := by
  refine fl_okp ?_ (by omega)
  have H : (List.range 16).all (fun i => Nat.beq (fk_K (21 + 4 * i)) 21) = true := by decide +kernel
  exact Nat.eq_of_beq_eq_true (List.all_eq_true.mp H i (List.mem_range.mpr hi))
theorem t2_kc2 {h i : Nat} (hi : i < 16) : fl_ok h (.inr (.inr (.inl (66, 198 + 4 * i)))) := by
  refine fl_okp ?_ (by omega)
  have H : (List.range 16).all (fun i => Nat.beq (fk_K (198 + 4 * i)) 66) = true := by decide +kernel
  exact Nat.eq_of_beq_eq_true (List.all_eq_true.mp H i (List.mem_range.mpr hi))
theorem t2_kt2 {h i : Nat} (hi : i < 16) : fl_ok h (.inr (.inr (.inl (67, 199 + 4 * i)))) := by
  refine fl_okp ?_ (by omega)
  have H : (List.range 16).all (fun i => Nat.beq (fk_K (199 + 4 * i)) 67) = true := by decide +kernel
  exact Nat.eq_of_beq_eq_true (List.all_eq_true.mp H i (List.mem_range.mpr hi))
theorem t2_ka2 {h i : Nat} (hi : i < 16) : fl_ok h (.inr (.inr (.inl (68, 200 + 4 * i)))) := by
  refine fl_okp ?_ (by omega)
  have H : (List.range 16).all (fun i => Nat.beq (fk_K (200 + 4 * i)) 68) = true := by decide +kernel
  exact Nat.eq_of_beq_eq_true (List.all_eq_true.mp H i (List.mem_range.mpr hi))
theorem t2_ky2 {h i : Nat} (hi : i < 16) : fl_ok h (.inr (.inr (.inl (69, 201 + 4 * i)))) := by
  refine fl_okp ?_ (by omega)
  have H : (List.range 16).all (fun i => Nat.beq (fk_K (201 + 4 * i)) 69) = true := by decide +kernel
  exact Nat.eq_of_beq_eq_true (List.all_eq_true.mp H i (List.mem_range.mpr hi))
theorem t2_nz {x : Int32} (h : x.toInt ≠ 0) : x ≠ 0 := fun e => h (by rw [e]; rfl)
theorem t2_nzp {x : Int32} (h : 0 < x.toInt) : x ≠ 0 := t2_nz (by omega)
theorem t2_nz64 {x : Int32} (h : x.toInt ≠ 0) : x.toInt64 ≠ 0 := fun e => h (by
  have h2 := congrArg Int64.toInt e
  rw [Int32.toInt_toInt64] at h2
  exact h2)
section T2R
variable {L : Nat} {xs : Nat → Int32} {f : t2_F} {l : t2_L} {Q : Option fl_V → fl_M → Prop}
theorem t2_its {W : Nat} {wi v : Int32} (hw : wi.toInt = W) (hw2 : W < 30) (hv : f 280 (34 + W) = v) (k : Q (some (.inl v)) (f, l)) : fl_Tq (pw_P L xs) 191 0 (fl_args (am_mxl (pw_P L xs) 191) [at_this, .inl wi]) [] (f, l) Q := by
  subst hv
  exact at_its (m := (f, l)) hw hw2 k
theorem t2_get {C W : Nat} {ci wi v : Int32} (hc : ci.toInt = C) (hw : wi.toInt = W) (hc2 : C < 16) (hw2 : W < 61) (hv : f 280 (444 + 61 * C + W) = v) (k : Q (some (.inl v)) (f, l)) : fl_Tq (pw_P L xs) 193 0 (fl_args (am_mxl (pw_P L xs) 193) [at_this, .inl ci, .inl wi]) [] (f, l) Q := by
  subst hv
  exact at_get (m := (f, l)) hc hw hc2 hw2 k
theorem t2_let {C W : Nat} {ci wi x : Int32} {m' : fl_M} (hc : ci.toInt = C) (hw : wi.toInt = W) (hc2 : C < 16) (hw2 : W < 61) (hm : ((fl_up f 280 (444 + 61 * C + W) x, l) : fl_M) = m') (k : Q none m') : fl_Tq (pw_P L xs) 194 0 (fl_args (am_mxl (pw_P L xs) 194) [at_this, .inl ci, .inl wi, .inl x]) [] (f, l) Q := by
  subst hm
  exact at_let (m := (f, l)) hc hw hc2 hw2 (fun m' e => by rw [e]; exact k)
end T2R

end

/-! 91.02.rest.lean.txt -/
section
/-! ===== the rest curve: both programs' one function of the part; the part by volts ===== -/
def t2_RS (f : Nat → Nat → Int32) : Prop := ∀ j : Nat, f 279 j = (at_i0 279).getD j 0
theorem at_XI.rs {m : fl_M} (h : at_XI m) : t2_RS m.1 := fun j => h.2.2.2.2.2.2.2 279 j (Or.inr rfl)
def t2_T (k : Nat) : Int := (pw_tbl 1 k).toInt
def t2_rv (p : Nat) : Int := if 10 ≤ p / 100 then t2_T 10 else t2_T (p / 100) + (t2_T (p / 100 + 1) - t2_T (p / 100)) * ((p % 100 : Nat) : Int) / 100
theorem t2_Tb : ∀ k : Fin 11, 3000 ≤ t2_T k.val ∧ t2_T k.val ≤ 4200 ∧ ((at_i0 279).getD k.val 0) = pw_tbl 1 k.val := by decide +kernel
theorem t2_Td : ∀ k : Fin 10, 0 ≤ t2_T (k.val + 1) - t2_T k.val ∧ t2_T (k.val + 1) - t2_T k.val ≤ 450 := by decide +kernel
theorem t2_mn1 : ∀ p : Fin 1000, t2_rv p.val ≤ t2_rv (p.val + 1) := by decide +kernel
theorem t2_mn {p q : Nat} (h : p ≤ q) (hq : q ≤ 1000) : t2_rv p ≤ t2_rv q := by
  obtain ⟨d, rfl⟩ := Nat.exists_eq_add_of_le h
  clear h
  induction d with
  | zero => exact Int.le_refl _
  | succ d ih =>
    have h1 := ih (by omega)
    have h2 := t2_mn1 ⟨p + d, by omega⟩
    exact Int.le_trans h1 h2
theorem at_div32 {x y : Int32} (hx : 0 ≤ x.toInt) (hy : 0 < y.toInt) : (x / y).toInt = x.toInt / y.toInt := by
  have hb := at_i32 x
  have h1 : x.toInt / y.toInt ≤ x.toInt := Int.ediv_le_self _ hx
  have h2 : 0 ≤ x.toInt / y.toInt := Int.ediv_nonneg hx (by omega)
  rw [Int32.toInt_div, Int.tdiv_eq_ediv_of_nonneg hx]
  exact Int.bmod_eq_of_le (by omega) (by omega)
section T2R
variable {L : Nat} {xs : Nat → Int32} {m : fl_M} {Q : Option fl_V → fl_M → Prop}
/-- the last step of both: from the curve's two points and what is above -/
theorem t2_end {a b d s r : Int32} {p : Nat} (hp : p / 100 < 10) (ea : a.toInt = t2_T (p / 100)) (eb : b.toInt = t2_T (p / 100 + 1)) (er : r.toInt = ((p % 100 : Nat) : Int)) (es : s.toInt = 100) (ed : d = b - a) : (a + d * r / s).toInt = t2_rv p := by
  obtain ⟨t1, t2, -⟩ := t2_Tb ⟨p / 100, by omega⟩
  obtain ⟨t3, t4, -⟩ := t2_Tb ⟨p / 100 + 1, by omega⟩
  obtain ⟨t5, t6⟩ := t2_Td ⟨p / 100, hp⟩
  dsimp only at t1 t2 t3 t4 t5 t6
  have e1 : d.toInt = t2_T (p / 100 + 1) - t2_T (p / 100) := by rw [ed, at_sub32] <;> rw [ea, eb] <;> omega
  have hm : 0 ≤ (t2_T (p / 100 + 1) - t2_T (p / 100)) * ((p % 100 : Nat) : Int) ∧ (t2_T (p / 100 + 1) - t2_T (p / 100)) * ((p % 100 : Nat) : Int) ≤ 450 * 99 := by
    refine ⟨Int.mul_nonneg t5 (by omega), ?_⟩
    exact Int.mul_le_mul t6 (by omega) (by omega) (by omega)
  have e2 : (d * r).toInt = (t2_T (p / 100 + 1) - t2_T (p / 100)) * ((p % 100 : Nat) : Int) := by rw [at_mul32] <;> rw [e1, er] <;> omega
  have e3 : (d * r / s).toInt = (t2_T (p / 100 + 1) - t2_T (p / 100)) * ((p % 100 : Nat) : Int) / 100 := by
    rw [at_div32 (by omega) (by omega), e2, es]
  unfold t2_rv
  rw [if_neg (by omega), at_add32] <;> rw [ea, e3] <;> omega
theorem t2_restBy {x : Int32} {p : Nat} (hx : x.toInt = p) (k : ∀ v : Int32, v.toInt = t2_rv p → Q (some (.inl v)) m) : fl_Tq (pw_P L xs) 178 0 (fl_args (am_mxl (pw_P L xs) 178) [.inl x]) [] m Q := by
  have e100 : (Int8.ofInt 100).toInt32.toInt = 100 := by decide +kernel
  have e1 : (Int32.ofInt 1).toInt = 1 := rfl
  have hb := at_i32 x
  have ek : (x / (Int8.ofInt 100).toInt32).toInt = ((p / 100 : Nat) : Int) := by
    rw [at_div32 (by omega) (by omega), e100, hx]; omega
  have e10 : (Int32.ofNat 11 - Int32.ofInt 1).toInt = 10 := by decide +kernel
  refine fl_Tq.stp rfl rfl (fl_bo rfl) rfl ?_
  refine fl_Tq.zt rfl (fl_bo rfl) (by rw [at_c1, hx]; exact decide_eq_true (by omega)) rfl ?_
  refine fl_Tq.stp rfl rfl (fl_bo rfl) rfl ?_
  refine fl_Tq.stp rfl rfl (fl_bo rfl) rfl ?_
  refine fl_Tq.stp rfl rfl (fl_bo rfl) rfl ?_
  refine fl_Tq.stp rfl rfl (fl_bo rfl) rfl ?_
  refine fl_Tq.dv rfl (fl_bo rfl) (by decide +kernel) ?_
  refine fl_Tq.stp rfl rfl (fl_bo rfl) rfl ?_
  refine fl_Tq.stp rfl rfl (fl_bo rfl) rfl ?_
  refine fl_Tq.stp rfl rfl (fl_bo rfl) rfl ?_
  refine fl_Tq.stp rfl rfl (fl_bo rfl) rfl ?_
  refine fl_Tq.stp rfl rfl (fl_bo rfl) rfl ?_
  refine fl_Tq.stp rfl rfl (fl_bo rfl) rfl ?_
  by_cases hp : p / 100 < 10
  · refine fl_Tq.jt rfl (fl_bo rfl) ?_ rfl ?_
    · show am_c2 .lt (x / (Int8.ofInt 100).toInt32) (Int32.ofNat 11 - Int32.ofInt 1) = true
      rw [at_c2, ek, e10]
      exact decide_eq_true (by omega)
    have ek1 : (x / (Int8.ofInt 100).toInt32 + Int32.ofInt 1).toInt = ((p / 100 + 1 : Nat) : Int) := by rw [at_add32] <;> rw [ek, e1] <;> omega
    refine fl_Tq.stp rfl rfl (fl_bo rfl) rfl ?_
    refine fl_Tq.stp rfl rfl (fl_bo rfl) rfl ?_
    refine fl_Tq.tld (n := 11) (f := pw_tbl 1) (k := p / 100) rfl (fl_bo rfl) rfl ek (by omega) ?_
    refine fl_Tq.stp rfl rfl (fl_bo rfl) rfl ?_
    refine fl_Tq.stp rfl rfl (fl_bo rfl) rfl ?_
    refine fl_Tq.stp rfl rfl (fl_bo rfl) rfl ?_
    refine fl_Tq.stp rfl rfl (fl_bo rfl) rfl ?_
    refine fl_Tq.tld (n := 11) (f := pw_tbl 1) (k := p / 100 + 1) rfl (fl_bo rfl) rfl ek1 (by omega) ?_
    refine fl_Tq.stp rfl rfl (fl_bo rfl) rfl ?_
    refine fl_Tq.stp rfl rfl (fl_bo rfl) rfl ?_
    refine fl_Tq.tld (n := 11) (f := pw_tbl 1) (k := p / 100) rfl (fl_bo rfl) rfl ek (by omega) ?_
    refine fl_Tq.stp rfl rfl (fl_bo rfl) rfl ?_
    refine fl_Tq.stp rfl rfl (fl_bo rfl) rfl ?_
    refine fl_Tq.stp rfl rfl (fl_bo rfl) rfl ?_
    refine fl_Tq.rm rfl (fl_bo rfl) (by decide +kernel) ?_
    refine fl_Tq.stp rfl rfl (fl_bo rfl) rfl ?_
    refine fl_Tq.stp rfl rfl (fl_bo rfl) rfl ?_
    refine fl_Tq.dv rfl (fl_bo rfl) (by decide +kernel) ?_
    refine fl_Tq.stp rfl rfl (fl_bo rfl) rfl ?_
    refine fl_Tq.ret rfl rfl rfl (k _ ?_)
    have er : (x - x / (Int8.ofInt 100).toInt32 * (Int8.ofInt 100).toInt32).toInt = ((p % 100 : Nat) : Int) := by
      have q2 : (x / (Int8.ofInt 100).toInt32 * (Int8.ofInt 100).toInt32).toInt = ((p / 100 * 100 : Nat) : Int) := by
        rw [at_mul32] <;> rw [ek, e100] <;> omega
      rw [at_sub32] <;> rw [q2, hx] <;> omega
    exact t2_end hp rfl rfl er e100 rfl
  · refine fl_Tq.jf rfl (fl_bo rfl) ?_ rfl ?_
    · show am_c2 .lt (x / (Int8.ofInt 100).toInt32) (Int32.ofNat 11 - Int32.ofInt 1) = false
      rw [at_c2, ek, e10]
      exact decide_eq_false (by omega)
    refine fl_Tq.stp rfl rfl (fl_bo rfl) rfl ?_
    refine fl_Tq.stp rfl rfl (fl_bo rfl) rfl ?_
    refine fl_Tq.stp rfl rfl (fl_bo rfl) rfl ?_
    refine fl_Tq.stp rfl rfl (fl_bo rfl) rfl ?_
    refine fl_Tq.stp rfl rfl (fl_bo rfl) rfl ?_
    refine fl_Tq.tld (n := 11) (f := pw_tbl 1) (k := 10) rfl (fl_bo rfl) rfl e10 (by omega) ?_
    refine fl_Tq.ret rfl rfl rfl (k _ ?_)
    unfold t2_rv
    rw [if_pos (by omega)]
    rfl
theorem t2_restOf {x : Int32} {p : Nat} (hX : t2_RS m.1) (hx : x.toInt = p) (hp1 : p ≤ 1000) (k : ∀ v : Int32, v.toInt = t2_rv p → Q (some (.inl v)) m) : fl_Tq (pw_P L xs) 198 0 (fl_args (am_mxl (pw_P L xs) 198) [at_this, .inl x]) [] m Q := by
  have e100 : (Int8.ofInt 100).toInt32.toInt = 100 := by decide +kernel
  have e10 : (Int8.ofInt 10).toInt32.toInt = 10 := by decide +kernel
  have e1 : (Int32.ofInt 1).toInt = 1 := rfl
  have hb := at_i32 x
  have hw : ∀ j : Nat, j ≤ 10 → m.1 279 j = pw_tbl 1 j := fun j hj => by
    rw [hX j]
    exact (t2_Tb ⟨j, by omega⟩).2.2
  have ek : (x / (Int8.ofInt 100).toInt32).toInt = ((p / 100 : Nat) : Int) := by
    rw [at_div32 (by omega) (by omega), e100, hx]; omega
  refine fl_Tq.stp rfl rfl (fl_bo rfl) rfl ?_
  refine fl_Tq.stp rfl rfl (fl_bo rfl) rfl ?_
  refine fl_Tq.dv rfl (fl_bo rfl) (by decide +kernel) ?_
  refine fl_Tq.stp rfl rfl (fl_bo rfl) rfl ?_
  refine fl_Tq.stp rfl rfl (fl_bo rfl) rfl ?_
  refine fl_Tq.stp rfl rfl (fl_bo rfl) rfl ?_
  by_cases hp : p / 100 < 10
  · refine fl_Tq.jt rfl (fl_bo rfl) ?_ rfl ?_
    · rw [at_c2, ek, e10]
      show (!decide _) = true
      rw [decide_eq_false (by omega)]
      rfl
    have ek1 : (x / (Int8.ofInt 100).toInt32 + Int32.ofInt 1).toInt = ((p / 100 + 1 : Nat) : Int) := by rw [at_add32] <;> rw [ek, e1] <;> omega
    refine fl_Tq.stp rfl rfl (fl_bo rfl) rfl ?_
    refine fl_Tq.stp rfl rfl (fl_bo rfl) rfl ?_
    refine fl_Tq.stp rfl rfl (fl_bo rfl) rfl ?_
    refine fl_Tq.ld (p := 279) (τ := 78) (n := 11) (z := (0, 0, 0)) (k := p / 100) rfl (fl_bo rfl) rfl ek (by omega) ?_
    refine fl_Tq.stp rfl rfl (fl_bo rfl) rfl ?_
    refine fl_Tq.stp rfl rfl (fl_bo rfl) rfl ?_
    refine fl_Tq.stp rfl rfl (fl_bo rfl) rfl ?_
    refine fl_Tq.stp rfl rfl (fl_bo rfl) rfl ?_
    refine fl_Tq.stp rfl rfl (fl_bo rfl) rfl ?_
    refine fl_Tq.ld (p := 279) (τ := 78) (n := 11) (z := (0, 0, 0)) (k := p / 100 + 1) rfl (fl_bo rfl) rfl ek1 (by omega) ?_
    refine fl_Tq.stp rfl rfl (fl_bo rfl) rfl ?_
    refine fl_Tq.stp rfl rfl (fl_bo rfl) rfl ?_
    refine fl_Tq.stp rfl rfl (fl_bo rfl) rfl ?_
    refine fl_Tq.ld (p := 279) (τ := 78) (n := 11) (z := (0, 0, 0)) (k := p / 100) rfl (fl_bo rfl) rfl ek (by omega) ?_
    refine fl_Tq.stp rfl rfl (fl_bo rfl) rfl ?_
    refine fl_Tq.stp rfl rfl (fl_bo rfl) rfl ?_
    refine fl_Tq.stp rfl rfl (fl_bo rfl) rfl ?_
    refine fl_Tq.stp rfl rfl (fl_bo rfl) rfl ?_
    refine fl_Tq.stp rfl rfl (fl_bo rfl) rfl ?_
    refine fl_Tq.stp rfl rfl (fl_bo rfl) rfl ?_
    refine fl_Tq.stp rfl rfl (fl_bo rfl) rfl ?_
    refine fl_Tq.stp rfl rfl (fl_bo rfl) rfl ?_
    refine fl_Tq.dv rfl (fl_bo rfl) (by decide +kernel) ?_
    refine fl_Tq.stp rfl rfl (fl_bo rfl) rfl ?_
    refine fl_Tq.ret rfl rfl rfl (k _ ?_)
    have er : (x - (Int8.ofInt 100).toInt32 * (x / (Int8.ofInt 100).toInt32)).toInt = ((p % 100 : Nat) : Int) := by
      have q2 : ((Int8.ofInt 100).toInt32 * (x / (Int8.ofInt 100).toInt32)).toInt = ((p / 100 * 100 : Nat) : Int) := by
        rw [at_mul32] <;> rw [ek, e100] <;> omega
      rw [at_sub32] <;> rw [q2, hx] <;> omega
    exact t2_end hp (by rw [hw _ (by omega)]; rfl) (by rw [hw _ (by omega)]; rfl) er e100 rfl
  · have hp2 : p / 100 = 10 := by omega
    refine fl_Tq.jf rfl (fl_bo rfl) ?_ rfl ?_
    · rw [at_c2, ek, e10]
      show (!decide _) = false
      rw [decide_eq_true (by omega)]
      rfl
    refine fl_Tq.stp rfl rfl (fl_bo rfl) rfl ?_
    refine fl_Tq.stp rfl rfl (fl_bo rfl) rfl ?_
    refine fl_Tq.stp rfl rfl (fl_bo rfl) rfl ?_
    refine fl_Tq.ld (p := 279) (τ := 78) (n := 11) (z := (0, 0, 0)) (k := 10) rfl (fl_bo rfl) rfl e10 (by omega) ?_
    refine fl_Tq.stp rfl rfl (fl_bo rfl) rfl ?_
    refine fl_Tq.ret rfl rfl rfl (k _ ?_)
    rw [hw 10 (by omega)]
    unfold t2_rv
    rw [if_pos (by omega)]
    rfl
/-- the least part whose rest is so many volts -/
def t2_lp (v : Int) (n : Nat) : Prop := n ≤ 1000 ∧ (∀ p : Nat, p < n → t2_rv p < v) ∧ (n = 1000 ∨ v ≤ t2_rv n)
theorem t2_lp_u {v : Int} {n n' : Nat} (h : t2_lp v n) (h' : t2_lp v n') : n = n' := by
  obtain ⟨a1, a2, a3⟩ := h
  obtain ⟨b1, b2, b3⟩ := h'
  rcases Nat.lt_trichotomy n n' with q | q | q
  · have := b2 n q
    omega
  · exact q
  · have := a2 n' q
    omega
theorem t2_leastBy {v : Int32} (hX : t2_RS m.1) (k : ∀ (x : Int32) (n : Nat), x.toInt = n → t2_lp v.toInt n → Q (some (.inl x)) m) : fl_Tq (pw_P L xs) 223 0 (fl_args (am_mxl (pw_P L xs) 223) [at_this, .inl v]) [] m Q := by
  have loop : ∀ (d n : Nat), n + d = 1000 → (∀ p : Nat, p < n → t2_rv p < v.toInt) → fl_Tq (pw_P L xs) 223 2 [some at_this, some (.inl v), some (.inl (Int32.ofNat n))] [] m Q := by
    intro d
    induction d with
    | zero =>
      intro n hn hb
      have hn : n = 1000 := by omega
      subst hn
      refine fl_Tq.stp rfl rfl (fl_bo rfl) rfl ?_
      refine fl_Tq.stp rfl rfl (fl_bo rfl) rfl ?_
      refine fl_Tq.jt rfl (fl_bo rfl) (by decide +kernel) rfl ?_
      refine fl_Tq.stp rfl rfl (fl_bo rfl) rfl ?_
      exact fl_Tq.ret rfl rfl rfl (k _ 1000 (by decide +kernel) ⟨Nat.le_refl _, hb, Or.inl rfl⟩)
    | succ d ih =>
      intro n hn hb
      have en := at_ofN (k := n) (by omega)
      refine fl_Tq.stp rfl rfl (fl_bo rfl) rfl ?_
      refine fl_Tq.stp rfl rfl (fl_bo rfl) rfl ?_
      refine fl_Tq.jf rfl (fl_bo rfl) ?_ rfl ?_
      · rw [at_c2, en]
        exact decide_eq_false (by show ¬ (0 ≤ (n : Int) - 1000); omega)
      refine fl_Tq.stp rfl rfl (fl_bo rfl) rfl ?_
      refine fl_Tq.stp rfl rfl (fl_bo rfl) rfl ?_
      refine fl_Tq.cal rfl rfl (fl_bo rfl) rfl ?_
      refine t2_restOf hX en (by omega) (fun r er => ?_)
      refine fl_Tq.stp rfl rfl (fl_bo rfl) rfl ?_
      by_cases hv : v.toInt ≤ t2_rv n
      · refine fl_Tq.jt rfl (fl_bo rfl) (by rw [at_c2, er]; exact decide_eq_true (by omega)) rfl ?_
        refine fl_Tq.stp rfl rfl (fl_bo rfl) rfl ?_
        exact fl_Tq.ret rfl rfl rfl (k _ n en ⟨by omega, hb, Or.inr hv⟩)
      · refine fl_Tq.jf rfl (fl_bo rfl) (by rw [at_c2, er]; exact decide_eq_false (by omega)) rfl ?_
        refine fl_Tq.stp rfl rfl (fl_bo rfl) rfl ?_
        refine fl_Tq.stp rfl rfl (fl_bo rfl) rfl ?_
        have := ih (n + 1) (by omega) (fun p hp => by
          by_cases e : p = n
          · rw [e]; omega
          · exact hb p (by omega))
        rw [← at_inc (by omega)] at this
        exact this
  refine fl_Tq.stp rfl rfl (fl_bo rfl) rfl ?_
  refine fl_Tq.stp rfl rfl (fl_bo rfl) rfl ?_
  exact loop 1000 0 (by omega) (fun p hp => by omega)
theorem t2_byVolts {v : Int32} (k : ∀ (x : Int32) (n : Nat), x.toInt = n → t2_lp v.toInt n → Q (some (.inl x)) m) : fl_Tq (pw_P L xs) 179 0 (fl_args (am_mxl (pw_P L xs) 179) [.inl v]) [] m Q := by
  have e1 : (Int32.ofInt 1).toInt = 1 := rfl
  have e2 : (Int32.ofInt 2).toInt = 2 := rfl
  have e10 : (Int8.ofInt 10).toInt32.toInt = 10 := by decide +kernel
  have loop : ∀ (d i : Nat), i + d = 10 → ∀ (lo hi : Int32) (l h : Nat) (o4 : Option fl_V), lo.toInt = l → hi.toInt = h → l ≤ h → h ≤ 1000 → h - l < 2 ^ d → (∀ p : Nat, p < l → t2_rv p < v.toInt) → (h = 1000 ∨ v.toInt ≤ t2_rv h) → fl_Tq (pw_P L xs) 179 8 [some (.inl v), some (.inl lo), some (.inl hi), some (.inl (Int32.ofNat i)), o4] [] m Q := by
    intro d
    induction d with
    | zero =>
      intro i hi10 lo hi l h o4 el eh h1 h2 h3 h4 h5
      have hi10 : i = 10 := by omega
      subst hi10
      refine fl_Tq.stp rfl rfl (fl_bo rfl) rfl ?_
      refine fl_Tq.stp rfl rfl (fl_bo rfl) rfl ?_
      refine fl_Tq.jt rfl (fl_bo rfl) (by decide +kernel) rfl ?_
      refine fl_Tq.stp rfl rfl (fl_bo rfl) rfl ?_
      have : l = h := by simp at h3; omega
      subst this
      exact fl_Tq.ret rfl rfl rfl (k _ l el ⟨h2, h4, h5⟩)
    | succ d ih =>
      intro i hi10 lo hi l h o4 el eh h1 h2 h3 h4 h5
      have ei := at_ofN (k := i) (by omega)
      refine fl_Tq.stp rfl rfl (fl_bo rfl) rfl ?_
      refine fl_Tq.stp rfl rfl (fl_bo rfl) rfl ?_
      refine fl_Tq.jf rfl (fl_bo rfl) ?_ rfl ?_
      · rw [at_c2, ei, e10]
        exact decide_eq_false (by omega)
      refine fl_Tq.stp rfl rfl (fl_bo rfl) rfl ?_
      refine fl_Tq.stp rfl rfl (fl_bo rfl) rfl ?_
      by_cases hlh : l < h
      · refine fl_Tq.jf rfl (fl_bo rfl) (by rw [at_c2, el, eh]; exact decide_eq_false (by omega)) rfl ?_
        have es : (lo + hi).toInt = (l : Int) + h := by rw [at_add32] <;> rw [el, eh] <;> omega
        have ehf : ((lo + hi) / Int32.ofInt 2).toInt = (((l + h) / 2 : Nat) : Int) := by
          rw [at_div32 (by omega) (by omega), es, e2]; omega
        refine fl_Tq.stp rfl rfl (fl_bo rfl) rfl ?_
        refine fl_Tq.stp rfl rfl (fl_bo rfl) rfl ?_
        refine fl_Tq.stp rfl rfl (fl_bo rfl) rfl ?_
        refine fl_Tq.stp rfl rfl (fl_bo rfl) rfl ?_
        refine fl_Tq.dv rfl (fl_bo rfl) (by decide +kernel) ?_
        refine fl_Tq.stp rfl rfl (fl_bo rfl) rfl ?_
        refine fl_Tq.stp rfl rfl (fl_bo rfl) rfl ?_
        refine fl_Tq.cal rfl rfl (fl_bo rfl) rfl ?_
        refine t2_restBy ehf (fun r er => ?_)
        have hp2 : 2 ^ (d + 1) = 2 * 2 ^ d := by rw [Nat.pow_succ]; omega
        refine fl_Tq.stp rfl rfl (fl_bo rfl) rfl ?_
        by_cases hv : t2_rv ((l + h) / 2) < v.toInt
        · refine fl_Tq.jt rfl (fl_bo rfl) (by rw [at_c2, er]; exact decide_eq_true (by omega)) rfl ?_
          have eh1 : ((lo + hi) / Int32.ofInt 2 + Int32.ofInt 1).toInt = (((l + h) / 2 + 1 : Nat) : Int) := by rw [at_add32] <;> rw [ehf, e1] <;> omega
          refine fl_Tq.stp rfl rfl (fl_bo rfl) rfl ?_
          refine fl_Tq.stp rfl rfl (fl_bo rfl) rfl ?_
          refine fl_Tq.stp rfl rfl (fl_bo rfl) rfl ?_
          refine fl_Tq.stp rfl rfl (fl_bo rfl) rfl ?_
          refine fl_Tq.stp rfl rfl (fl_bo rfl) rfl ?_
          refine fl_Tq.stp rfl rfl (fl_bo rfl) rfl ?_
          have := ih (i + 1) (by omega) _ hi ((l + h) / 2 + 1) h (some (.inl ((lo + hi) / Int32.ofInt 2))) eh1 eh (by omega) h2 (by omega) (fun p hp => by
            have := t2_mn (p := p) (q := (l + h) / 2) (by omega) (by omega)
            omega) h5
          rw [← at_inc (by omega)] at this
          exact this
        · refine fl_Tq.jf rfl (fl_bo rfl) (by rw [at_c2, er]; exact decide_eq_false (by omega)) rfl ?_
          refine fl_Tq.stp rfl rfl (fl_bo rfl) rfl ?_
          refine fl_Tq.stp rfl rfl (fl_bo rfl) rfl ?_
          refine fl_Tq.stp rfl rfl (fl_bo rfl) rfl ?_
          refine fl_Tq.stp rfl rfl (fl_bo rfl) rfl ?_
          refine fl_Tq.stp rfl rfl (fl_bo rfl) rfl ?_
          have := ih (i + 1) (by omega) lo _ l ((l + h) / 2) (some (.inl ((lo + hi) / Int32.ofInt 2))) el ehf (by omega) (by omega) (by omega) h4 (Or.inr (by omega))
          rw [← at_inc (by omega)] at this
          exact this
      · refine fl_Tq.jt rfl (fl_bo rfl) (by rw [at_c2, el, eh]; exact decide_eq_true (by omega)) rfl ?_
        refine fl_Tq.stp rfl rfl (fl_bo rfl) rfl ?_
        have : l = h := by omega
        subst this
        exact fl_Tq.ret rfl rfl rfl (k _ l el ⟨h2, h4, h5⟩)
  refine fl_Tq.stp rfl rfl (fl_bo rfl) rfl ?_
  refine fl_Tq.stp rfl rfl (fl_bo rfl) rfl ?_
  refine fl_Tq.stp rfl rfl (fl_bo rfl) rfl ?_
  refine fl_Tq.stp rfl rfl (fl_bo rfl) rfl ?_
  refine fl_Tq.stp rfl rfl (fl_bo rfl) rfl ?_
  refine fl_Tq.stp rfl rfl (fl_bo rfl) rfl ?_
  exact loop 10 0 (by omega) _ _ 0 1000 none (by decide +kernel) (by decide +kernel) (by omega) (by omega) (by decide) (fun p hp => by omega) (Or.inl rfl)
end T2R

end

/-! 91.03.g1.lean.txt -/
section
noncomputable def t2_min_v (x y : Int32) : Int32 := if y.toInt < x.toInt then y else x
theorem t2_min_q {L : Nat} {xs : Nat → Int32} {f : t2_F} {l : t2_L} {Q : Option fl_V → fl_M → Prop} {x y : Int32}  (k : Q (some (.inl (t2_min_v x y))) (f, l)) : fl_Tq (pw_P L xs) 335 0 (fl_args (am_mxl (pw_P L xs) 335) [.inl x, .inl y]) [] (f, l) Q := by
  refine fl_Tq.stp (pc' := 1) (lv' := [some (.inl x), some (.inl y)]) (st' := [.inl x]) (m' := (f, l)) rfl rfl (fl_bo rfl) rfl ?_
  refine fl_Tq.stp (pc' := 2) (lv' := [some (.inl x), some (.inl y)]) (st' := [.inl y, .inl x]) (m' := (f, l)) rfl rfl (fl_bo rfl) rfl ?_
  have hj1 : fl_Tq (pw_P L xs) 335 10 [some (.inl x), some (.inl y)] [.inl (if y.toInt < x.toInt then y else x)] (f, l) Q → fl_Tq (pw_P L xs) 335 2 [some (.inl x), some (.inl y)] [.inl y, .inl x] (f, l) Q := by
    intro hJ
    by_cases h1 : y.toInt < x.toInt
    · refine fl_Tq.jt rfl (fl_bo rfl) (c2_gt_t h1) rfl ?_
      refine fl_Tq.stp (pc' := 10) (lv' := [some (.inl x), some (.inl y)]) (st' := [.inl y]) (m' := (f, l)) rfl rfl (fl_bo rfl) rfl ?_
      have e0 : (if y.toInt < x.toInt then y else x) = y := by simp only [if_pos h1]
      rw [e0] at hJ
      exact hJ
    · refine fl_Tq.jf rfl (fl_bo rfl) (c2_gt_f h1) rfl ?_
      refine fl_Tq.stp (pc' := 6) (lv' := [some (.inl x), some (.inl y)]) (st' := [.inl x]) (m' := (f, l)) rfl rfl (fl_bo rfl) rfl ?_
      refine fl_Tq.stp (pc' := 10) (lv' := [some (.inl x), some (.inl y)]) (st' := [.inl x]) (m' := (f, l)) rfl rfl (fl_bo rfl) rfl ?_
      have e0 : (if y.toInt < x.toInt then y else x) = x := by simp only [if_neg h1]
      rw [e0] at hJ
      exact hJ
  refine hj1 ?_
  show fl_Tq _ 335 10 [some (.inl x), some (.inl y)] [.inl (if y.toInt < x.toInt then y else x)] (f, l) _
  exact fl_Tq.ret rfl rfl rfl k
noncomputable def t2_max_v (x y : Int32) : Int32 := if x.toInt < y.toInt then y else x
theorem t2_max_q {L : Nat} {xs : Nat → Int32} {f : t2_F} {l : t2_L} {Q : Option fl_V → fl_M → Prop} {x y : Int32}  (k : Q (some (.inl (t2_max_v x y))) (f, l)) : fl_Tq (pw_P L xs) 334 0 (fl_args (am_mxl (pw_P L xs) 334) [.inl x, .inl y]) [] (f, l) Q := by
  refine fl_Tq.stp (pc' := 1) (lv' := [some (.inl x), some (.inl y)]) (st' := [.inl x]) (m' := (f, l)) rfl rfl (fl_bo rfl) rfl ?_
  refine fl_Tq.stp (pc' := 2) (lv' := [some (.inl x), some (.inl y)]) (st' := [.inl y, .inl x]) (m' := (f, l)) rfl rfl (fl_bo rfl) rfl ?_
  have hj2 : fl_Tq (pw_P L xs) 334 10 [some (.inl x), some (.inl y)] [.inl (if x.toInt < y.toInt then y else x)] (f, l) Q → fl_Tq (pw_P L xs) 334 2 [some (.inl x), some (.inl y)] [.inl y, .inl x] (f, l) Q := by
    intro hJ
    by_cases h1 : x.toInt < y.toInt
    · refine fl_Tq.jt rfl (fl_bo rfl) (c2_lt_t h1) rfl ?_
      refine fl_Tq.stp (pc' := 10) (lv' := [some (.inl x), some (.inl y)]) (st' := [.inl y]) (m' := (f, l)) rfl rfl (fl_bo rfl) rfl ?_
      have e0 : (if x.toInt < y.toInt then y else x) = y := by simp only [if_pos h1]
      rw [e0] at hJ
      exact hJ
    · refine fl_Tq.jf rfl (fl_bo rfl) (c2_lt_f h1) rfl ?_
      refine fl_Tq.stp (pc' := 6) (lv' := [some (.inl x), some (.inl y)]) (st' := [.inl x]) (m' := (f, l)) rfl rfl (fl_bo rfl) rfl ?_
      refine fl_Tq.stp (pc' := 10) (lv' := [some (.inl x), some (.inl y)]) (st' := [.inl x]) (m' := (f, l)) rfl rfl (fl_bo rfl) rfl ?_
      have e0 : (if x.toInt < y.toInt then y else x) = x := by simp only [if_neg h1]
      rw [e0] at hJ
      exact hJ
  refine hj2 ?_
  show fl_Tq _ 334 10 [some (.inl x), some (.inl y)] [.inl (if x.toInt < y.toInt then y else x)] (f, l) _
  exact fl_Tq.ret rfl rfl rfl k
noncomputable def t2_abs_v (x : Int32) : Int32 := if x.toInt < 0 then -x else x
theorem t2_abs_q {L : Nat} {xs : Nat → Int32} {f : t2_F} {l : t2_L} {Q : Option fl_V → fl_M → Prop} {x : Int32}  (k : Q (some (.inl (t2_abs_v x))) (f, l)) : fl_Tq (pw_P L xs) 333 0 (fl_args (am_mxl (pw_P L xs) 333) [.inl x]) [] (f, l) Q := by
  refine fl_Tq.stp (pc' := 1) (lv' := [some (.inl x)]) (st' := [.inl x]) (m' := (f, l)) rfl rfl (fl_bo rfl) rfl ?_
  have hj3 : fl_Tq (pw_P L xs) 333 10 [some (.inl x)] [.inl (if x.toInt < 0 then -x else x)] (f, l) Q → fl_Tq (pw_P L xs) 333 1 [some (.inl x)] [.inl x] (f, l) Q := by
    intro hJ
    by_cases h1 : x.toInt < 0
    · refine fl_Tq.zf rfl (fl_bo rfl) (c1_ge_f h1) rfl ?_
      refine fl_Tq.stp (pc' := 5) (lv' := [some (.inl x)]) (st' := [.inl x]) (m' := (f, l)) rfl rfl (fl_bo rfl) rfl ?_
      refine fl_Tq.stp (pc' := 6) (lv' := [some (.inl x)]) (st' := [.inl (-x)]) (m' := (f, l)) rfl rfl (fl_bo rfl) rfl ?_
      refine fl_Tq.stp (pc' := 10) (lv' := [some (.inl x)]) (st' := [.inl (-x)]) (m' := (f, l)) rfl rfl (fl_bo rfl) rfl ?_
      have e0 : (if x.toInt < 0 then -x else x) = -x := by simp only [if_pos h1]
      rw [e0] at hJ
      exact hJ
    · refine fl_Tq.zt rfl (fl_bo rfl) (c1_ge_t h1) rfl ?_
      refine fl_Tq.stp (pc' := 10) (lv' := [some (.inl x)]) (st' := [.inl x]) (m' := (f, l)) rfl rfl (fl_bo rfl) rfl ?_
      have e0 : (if x.toInt < 0 then -x else x) = x := by simp only [if_neg h1]
      rw [e0] at hJ
      exact hJ
  refine hj3 ?_
  show fl_Tq _ 333 10 [some (.inl x)] [.inl (if x.toInt < 0 then -x else x)] (f, l) _
  exact fl_Tq.ret rfl rfl rfl k
noncomputable def t2_fdiv_v (x y : Int32) : Int32 := if (x ^^^ y).toInt < 0 then (if ((x / y) * y).toInt = x.toInt then x / y else (x / y) - (1 : Int32)) else x / y
theorem t2_fdiv_q {L : Nat} {xs : Nat → Int32} {f : t2_F} {l : t2_L} {Q : Option fl_V → fl_M → Prop} {x y : Int32} (hy : y ≠ 0) (k : Q (some (.inl (t2_fdiv_v x y))) (f, l)) : fl_Tq (pw_P L xs) 332 0 (fl_args (am_mxl (pw_P L xs) 332) [.inl x, .inl y]) [] (f, l) Q := by
  refine fl_Tq.stp (pc' := 1) (lv' := [some (.inl x), some (.inl y), none]) (st' := [.inl x]) (m' := (f, l)) rfl rfl (fl_bo rfl) rfl ?_
  refine fl_Tq.stp (pc' := 2) (lv' := [some (.inl x), some (.inl y), none]) (st' := [.inl y, .inl x]) (m' := (f, l)) rfl rfl (fl_bo rfl) rfl ?_
  refine fl_Tq.dv rfl (fl_bo rfl) hy ?_
  refine fl_Tq.stp (pc' := 4) (lv' := [some (.inl x), some (.inl y), some (.inl (x / y))]) (st' := []) (m' := (f, l)) rfl rfl (fl_bo rfl) rfl ?_
  refine fl_Tq.stp (pc' := 5) (lv' := [some (.inl x), some (.inl y), some (.inl (x / y))]) (st' := [.inl x]) (m' := (f, l)) rfl rfl (fl_bo rfl) rfl ?_
  refine fl_Tq.stp (pc' := 6) (lv' := [some (.inl x), some (.inl y), some (.inl (x / y))]) (st' := [.inl y, .inl x]) (m' := (f, l)) rfl rfl (fl_bo rfl) rfl ?_
  refine fl_Tq.stp (pc' := 7) (lv' := [some (.inl x), some (.inl y), some (.inl (x / y))]) (st' := [.inl (x ^^^ y)]) (m' := (f, l)) rfl rfl (fl_bo rfl) rfl ?_
  by_cases h1 : (x ^^^ y).toInt < 0
  · refine fl_Tq.zf rfl (fl_bo rfl) (c1_ge_f h1) rfl ?_
    refine fl_Tq.stp (pc' := 11) (lv' := [some (.inl x), some (.inl y), some (.inl (x / y))]) (st' := [.inl (x / y)]) (m' := (f, l)) rfl rfl (fl_bo rfl) rfl ?_
    refine fl_Tq.stp (pc' := 12) (lv' := [some (.inl x), some (.inl y), some (.inl (x / y))]) (st' := [.inl y, .inl (x / y)]) (m' := (f, l)) rfl rfl (fl_bo rfl) rfl ?_
    refine fl_Tq.stp (pc' := 13) (lv' := [some (.inl x), some (.inl y), some (.inl (x / y))]) (st' := [.inl ((x / y) * y)]) (m' := (f, l)) rfl rfl (fl_bo rfl) rfl ?_
    refine fl_Tq.stp (pc' := 14) (lv' := [some (.inl x), some (.inl y), some (.inl (x / y))]) (st' := [.inl x, .inl ((x / y) * y)]) (m' := (f, l)) rfl rfl (fl_bo rfl) rfl ?_
    by_cases h2 : ((x / y) * y).toInt = x.toInt
    · refine fl_Tq.jt rfl (fl_bo rfl) (c2_eq_t h2) rfl ?_
      refine fl_Tq.stp (pc' := 22) (lv' := [some (.inl x), some (.inl y), some (.inl (x / y))]) (st' := [.inl (x / y)]) (m' := (f, l)) rfl rfl (fl_bo rfl) rfl ?_
      refine fl_Tq.ret rfl rfl rfl ?_
      unfold t2_fdiv_v at k
      simp only [if_pos h1, if_pos h2] at k
      exact k
    · refine fl_Tq.jf rfl (fl_bo rfl) (c2_eq_f h2) rfl ?_
      refine fl_Tq.stp (pc' := 18) (lv' := [some (.inl x), some (.inl y), some (.inl (x / y))]) (st' := [.inl (x / y)]) (m' := (f, l)) rfl rfl (fl_bo rfl) rfl ?_
      refine fl_Tq.cI (c := (1 : Int32)) rfl (by decide +kernel) (fl_bo rfl) ?_
      refine fl_Tq.stp (pc' := 20) (lv' := [some (.inl x), some (.inl y), some (.inl (x / y))]) (st' := [.inl ((x / y) - (1 : Int32))]) (m' := (f, l)) rfl rfl (fl_bo rfl) rfl ?_
      refine fl_Tq.ret rfl rfl rfl ?_
      unfold t2_fdiv_v at k
      simp only [if_pos h1, if_neg h2] at k
      exact k
  · refine fl_Tq.zt rfl (fl_bo rfl) (c1_ge_t h1) rfl ?_
    refine fl_Tq.stp (pc' := 22) (lv' := [some (.inl x), some (.inl y), some (.inl (x / y))]) (st' := [.inl (x / y)]) (m' := (f, l)) rfl rfl (fl_bo rfl) rfl ?_
    refine fl_Tq.ret rfl rfl rfl ?_
    unfold t2_fdiv_v at k
    simp only [if_neg h1] at k
    exact k
noncomputable def t2_within_v (x lo hi : Int32) : Int32 := if x.toInt < lo.toInt then (0 : Int32) else (if hi.toInt < x.toInt then (0 : Int32) else (1 : Int32))
theorem t2_within_q {L : Nat} {xs : Nat → Int32} {f : t2_F} {l : t2_L} {Q : Option fl_V → fl_M → Prop} {x lo hi : Int32}  (k : Q (some (.inl (t2_within_v x lo hi))) (f, l)) : fl_Tq (pw_P L xs) 173 0 (fl_args (am_mxl (pw_P L xs) 173) [.inl x, .inl lo, .inl hi]) [] (f, l) Q := by
  refine fl_Tq.stp (pc' := 1) (lv' := [some (.inl x), some (.inl lo), some (.inl hi)]) (st' := [.inl x]) (m' := (f, l)) rfl rfl (fl_bo rfl) rfl ?_
  refine fl_Tq.stp (pc' := 2) (lv' := [some (.inl x), some (.inl lo), some (.inl hi)]) (st' := [.inl lo, .inl x]) (m' := (f, l)) rfl rfl (fl_bo rfl) rfl ?_
  by_cases h1 : x.toInt < lo.toInt
  · refine fl_Tq.jt rfl (fl_bo rfl) (c2_lt_t h1) rfl ?_
    refine fl_Tq.cI (c := (0 : Int32)) rfl (by decide +kernel) (fl_bo rfl) ?_
    refine fl_Tq.ret rfl rfl rfl ?_
    unfold t2_within_v at k
    simp only [if_pos h1] at k
    exact k
  · refine fl_Tq.jf rfl (fl_bo rfl) (c2_lt_f h1) rfl ?_
    refine fl_Tq.stp (pc' := 6) (lv' := [some (.inl x), some (.inl lo), some (.inl hi)]) (st' := [.inl x]) (m' := (f, l)) rfl rfl (fl_bo rfl) rfl ?_
    refine fl_Tq.stp (pc' := 7) (lv' := [some (.inl x), some (.inl lo), some (.inl hi)]) (st' := [.inl hi, .inl x]) (m' := (f, l)) rfl rfl (fl_bo rfl) rfl ?_
    by_cases h2 : hi.toInt < x.toInt
    · refine fl_Tq.jt rfl (fl_bo rfl) (c2_gt_t h2) rfl ?_
      refine fl_Tq.cI (c := (0 : Int32)) rfl (by decide +kernel) (fl_bo rfl) ?_
      refine fl_Tq.ret rfl rfl rfl ?_
      unfold t2_within_v at k
      simp only [if_neg h1, if_pos h2] at k
      exact k
    · refine fl_Tq.jf rfl (fl_bo rfl) (c2_gt_f h2) rfl ?_
      refine fl_Tq.cI (c := (1 : Int32)) rfl (by decide +kernel) (fl_bo rfl) ?_
      refine fl_Tq.stp (pc' := 15) (lv' := [some (.inl x), some (.inl lo), some (.inl hi)]) (st' := [.inl (1 : Int32)]) (m' := (f, l)) rfl rfl (fl_bo rfl) rfl ?_
      refine fl_Tq.ret rfl rfl rfl ?_
      unfold t2_within_v at k
      simp only [if_neg h1, if_neg h2] at k
      exact k
noncomputable def t2_heldTo_v (x lo hi : Int32) : Int32 := if x.toInt < lo.toInt then lo else (if hi.toInt < x.toInt then hi else x)
theorem t2_heldTo_q {L : Nat} {xs : Nat → Int32} {f : t2_F} {l : t2_L} {Q : Option fl_V → fl_M → Prop} {x lo hi : Int32}  (k : Q (some (.inl (t2_heldTo_v x lo hi))) (f, l)) : fl_Tq (pw_P L xs) 175 0 (fl_args (am_mxl (pw_P L xs) 175) [.inl x, .inl lo, .inl hi]) [] (f, l) Q := by
  refine fl_Tq.stp (pc' := 1) (lv' := [some (.inl x), some (.inl lo), some (.inl hi)]) (st' := [.inl x]) (m' := (f, l)) rfl rfl (fl_bo rfl) rfl ?_
  refine fl_Tq.stp (pc' := 2) (lv' := [some (.inl x), some (.inl lo), some (.inl hi)]) (st' := [.inl lo, .inl x]) (m' := (f, l)) rfl rfl (fl_bo rfl) rfl ?_
  by_cases h1 : x.toInt < lo.toInt
  · refine fl_Tq.jf rfl (fl_bo rfl) (c2_ge_f h1) rfl ?_
    refine fl_Tq.stp (pc' := 6) (lv' := [some (.inl x), some (.inl lo), some (.inl hi)]) (st' := [.inl lo]) (m' := (f, l)) rfl rfl (fl_bo rfl) rfl ?_
    refine fl_Tq.ret rfl rfl rfl ?_
    unfold t2_heldTo_v at k
    simp only [if_pos h1] at k
    exact k
  · refine fl_Tq.jt rfl (fl_bo rfl) (c2_ge_t h1) rfl ?_
    refine fl_Tq.stp (pc' := 8) (lv' := [some (.inl x), some (.inl lo), some (.inl hi)]) (st' := [.inl x]) (m' := (f, l)) rfl rfl (fl_bo rfl) rfl ?_
    refine fl_Tq.stp (pc' := 9) (lv' := [some (.inl x), some (.inl lo), some (.inl hi)]) (st' := [.inl hi, .inl x]) (m' := (f, l)) rfl rfl (fl_bo rfl) rfl ?_
    have hj4 : fl_Tq (pw_P L xs) 175 17 [some (.inl x), some (.inl lo), some (.inl hi)] [.inl (if hi.toInt < x.toInt then hi else x)] (f, l) Q → fl_Tq (pw_P L xs) 175 9 [some (.inl x), some (.inl lo), some (.inl hi)] [.inl hi, .inl x] (f, l) Q := by
      intro hJ
      by_cases h2 : hi.toInt < x.toInt
      · refine fl_Tq.jf rfl (fl_bo rfl) (c2_le_f h2) rfl ?_
        refine fl_Tq.stp (pc' := 13) (lv' := [some (.inl x), some (.inl lo), some (.inl hi)]) (st' := [.inl hi]) (m' := (f, l)) rfl rfl (fl_bo rfl) rfl ?_
        refine fl_Tq.stp (pc' := 17) (lv' := [some (.inl x), some (.inl lo), some (.inl hi)]) (st' := [.inl hi]) (m' := (f, l)) rfl rfl (fl_bo rfl) rfl ?_
        have e0 : (if hi.toInt < x.toInt then hi else x) = hi := by simp only [if_pos h2]
        rw [e0] at hJ
        exact hJ
      · refine fl_Tq.jt rfl (fl_bo rfl) (c2_le_t h2) rfl ?_
        refine fl_Tq.stp (pc' := 17) (lv' := [some (.inl x), some (.inl lo), some (.inl hi)]) (st' := [.inl x]) (m' := (f, l)) rfl rfl (fl_bo rfl) rfl ?_
        have e0 : (if hi.toInt < x.toInt then hi else x) = x := by simp only [if_neg h2]
        rw [e0] at hJ
        exact hJ
    refine hj4 ?_
    show fl_Tq _ 175 17 [some (.inl x), some (.inl lo), some (.inl hi)] [.inl (if hi.toInt < x.toInt then hi else x)] (f, l) _
    refine fl_Tq.ret rfl rfl rfl ?_
    unfold t2_heldTo_v at k
    simp only [if_neg h1] at k
    exact k
noncomputable def t2_chargeBy_v (p c : Int32) : Int32 := ((p * c) * (36 : Int32)) / (10 : Int32)
theorem t2_chargeBy_q {L : Nat} {xs : Nat → Int32} {f : t2_F} {l : t2_L} {Q : Option fl_V → fl_M → Prop} {p c : Int32}  (k : Q (some (.inl (t2_chargeBy_v p c))) (f, l)) : fl_Tq (pw_P L xs) 176 0 (fl_args (am_mxl (pw_P L xs) 176) [.inl p, .inl c]) [] (f, l) Q := by
  refine fl_Tq.stp (pc' := 1) (lv' := [some (.inl p), some (.inl c)]) (st' := [.inl p]) (m' := (f, l)) rfl rfl (fl_bo rfl) rfl ?_
  refine fl_Tq.stp (pc' := 2) (lv' := [some (.inl p), some (.inl c)]) (st' := [.inl c, .inl p]) (m' := (f, l)) rfl rfl (fl_bo rfl) rfl ?_
  refine fl_Tq.stp (pc' := 3) (lv' := [some (.inl p), some (.inl c)]) (st' := [.inl (p * c)]) (m' := (f, l)) rfl rfl (fl_bo rfl) rfl ?_
  refine fl_Tq.cB (c := (36 : Int32)) rfl (by decide +kernel) (fl_bo rfl) ?_
  refine fl_Tq.stp (pc' := 6) (lv' := [some (.inl p), some (.inl c)]) (st' := [.inl ((p * c) * (36 : Int32))]) (m' := (f, l)) rfl rfl (fl_bo rfl) rfl ?_
  refine fl_Tq.cB (c := (10 : Int32)) rfl (by decide +kernel) (fl_bo rfl) ?_
  refine fl_Tq.dv rfl (fl_bo rfl) (by decide +kernel) ?_
  exact fl_Tq.ret rfl rfl rfl k
noncomputable def t2_partOf_v (c x : Int32) : Int32 := if 0 < x.toInt then ((c.toInt64 * (1000 : Int64)) / x.toInt64).toInt32 else (0 : Int32)
theorem t2_partOf_q {L : Nat} {xs : Nat → Int32} {f : t2_F} {l : t2_L} {Q : Option fl_V → fl_M → Prop} {c x : Int32}  (k : Q (some (.inl (t2_partOf_v c x))) (f, l)) : fl_Tq (pw_P L xs) 177 0 (fl_args (am_mxl (pw_P L xs) 177) [.inl c, .inl x]) [] (f, l) Q := by
  refine fl_Tq.stp (pc' := 1) (lv' := [some (.inl c), some (.inl x)]) (st' := [.inl x]) (m' := (f, l)) rfl rfl (fl_bo rfl) rfl ?_
  have hj5 : fl_Tq (pw_P L xs) 177 18 [some (.inl c), some (.inl x)] [.inl (if 0 < x.toInt then ((c.toInt64 * (1000 : Int64)) / x.toInt64).toInt32 else (0 : Int32))] (f, l) Q → fl_Tq (pw_P L xs) 177 1 [some (.inl c), some (.inl x)] [.inl x] (f, l) Q := by
    intro hJ
    by_cases h1 : 0 < x.toInt
    · refine fl_Tq.zt rfl (fl_bo rfl) (c1_gt_t h1) rfl ?_
      refine fl_Tq.stp (pc' := 9) (lv' := [some (.inl c), some (.inl x)]) (st' := [.inl c]) (m' := (f, l)) rfl rfl (fl_bo rfl) rfl ?_
      refine fl_Tq.stp (pc' := 10) (lv' := [some (.inl c), some (.inl x)]) (st' := [.inr (.inl c.toInt64)]) (m' := (f, l)) rfl rfl (fl_bo rfl) rfl ?_
      refine fl_Tq.stp (pc' := 13) (lv' := [some (.inl c), some (.inl x)]) (st' := [.inr (.inl (1000 : Int64)), .inr (.inl c.toInt64)]) (m' := (f, l)) rfl rfl (fl_bo rfl) rfl ?_
      refine fl_Tq.stp (pc' := 14) (lv' := [some (.inl c), some (.inl x)]) (st' := [.inr (.inl (c.toInt64 * (1000 : Int64)))]) (m' := (f, l)) rfl rfl (fl_bo rfl) rfl ?_
      refine fl_Tq.stp (pc' := 15) (lv' := [some (.inl c), some (.inl x)]) (st' := [.inl x, .inr (.inl (c.toInt64 * (1000 : Int64)))]) (m' := (f, l)) rfl rfl (fl_bo rfl) rfl ?_
      refine fl_Tq.stp (pc' := 16) (lv' := [some (.inl c), some (.inl x)]) (st' := [.inr (.inl x.toInt64), .inr (.inl (c.toInt64 * (1000 : Int64)))]) (m' := (f, l)) rfl rfl (fl_bo rfl) rfl ?_
      refine fl_Tq.dvJ rfl (fl_bo rfl) (t2_nz64 (by omega)) ?_
      refine fl_Tq.stp (pc' := 18) (lv' := [some (.inl c), some (.inl x)]) (st' := [.inl (((c.toInt64 * (1000 : Int64)) / x.toInt64).toInt32)]) (m' := (f, l)) rfl rfl (fl_bo rfl) rfl ?_
      have e0 : (if 0 < x.toInt then ((c.toInt64 * (1000 : Int64)) / x.toInt64).toInt32 else (0 : Int32)) = ((c.toInt64 * (1000 : Int64)) / x.toInt64).toInt32 := by simp only [if_pos h1]
      rw [e0] at hJ
      exact hJ
    · refine fl_Tq.zf rfl (fl_bo rfl) (c1_gt_f h1) rfl ?_
      refine fl_Tq.cI (c := (0 : Int32)) rfl (by decide +kernel) (fl_bo rfl) ?_
      refine fl_Tq.stp (pc' := 18) (lv' := [some (.inl c), some (.inl x)]) (st' := [.inl (0 : Int32)]) (m' := (f, l)) rfl rfl (fl_bo rfl) rfl ?_
      have e0 : (if 0 < x.toInt then ((c.toInt64 * (1000 : Int64)) / x.toInt64).toInt32 else (0 : Int32)) = (0 : Int32) := by simp only [if_neg h1]
      rw [e0] at hJ
      exact hJ
  refine hj5 ?_
  show fl_Tq _ 177 18 [some (.inl c), some (.inl x)] [.inl (if 0 < x.toInt then ((c.toInt64 * (1000 : Int64)) / x.toInt64).toInt32 else (0 : Int32))] (f, l) _
  exact fl_Tq.ret rfl rfl rfl k

end

/-! 91.04.rest.lean.txt -/
section
/-! ===== the rest curve, the least part by volts: as functions ===== -/
def t2_rb (x : Int32) : Int32 := Int32.ofInt (t2_rv x.toInt.toNat)
theorem t2_rvb (p : Nat) : 0 ≤ t2_rv p ∧ t2_rv p ≤ 4700 := by
  unfold t2_rv
  split
  · have := t2_Tb ⟨10, by omega⟩
    dsimp only at this
    omega
  · rename_i h
    have h1 := t2_Tb ⟨p / 100, by omega⟩
    have h2 := t2_Td ⟨p / 100, by omega⟩
    dsimp only at h1 h2
    have h3 : 0 ≤ (t2_T (p / 100 + 1) - t2_T (p / 100)) * ((p % 100 : Nat) : Int) := Int.mul_nonneg h2.1 (by omega)
    have h4 : (t2_T (p / 100 + 1) - t2_T (p / 100)) * ((p % 100 : Nat) : Int) ≤ 450 * 99 := Int.mul_le_mul h2.2 (by omega) (by omega) (by omega)
    omega
theorem t2_rbi (x : Int32) : (t2_rb x).toInt = t2_rv x.toInt.toNat := by
  have := t2_rvb x.toInt.toNat
  unfold t2_rb
  exact Int32.toInt_ofInt_of_le (by omega) (by omega)
noncomputable def t2_pb (v : Int32) : Int32 := Int32.ofNat (Classical.epsilon (fun n => t2_lp v.toInt n))
section T2RB
variable {L : Nat} {xs : Nat → Int32} {f : t2_F} {l : t2_L} {Q : Option fl_V → fl_M → Prop}
theorem t2_restBy_q {x : Int32} (hx : 0 ≤ x.toInt) (k : Q (some (.inl (t2_rb x))) (f, l)) : fl_Tq (pw_P L xs) 178 0 (fl_args (am_mxl (pw_P L xs) 178) [.inl x]) [] (f, l) Q := by
  refine t2_restBy (p := x.toInt.toNat) (by omega) (fun v hv => ?_)
  have : v = t2_rb x := Int32.toInt.inj (by rw [hv, t2_rbi])
  rw [this]
  exact k
theorem r_restOf_q {x : Int32} (hr : t2_RS f) (hx : 0 ≤ x.toInt) (hx2 : x.toInt ≤ 1000) (k : Q (some (.inl (t2_rb x))) (f, l)) : fl_Tq (pw_P L xs) 198 0 (fl_args (am_mxl (pw_P L xs) 198) [at_this, .inl x]) [] (f, l) Q := by
  refine t2_restOf (m := (f, l)) hr (p := x.toInt.toNat) (by omega) (by omega) (fun v hv => ?_)
  have : v = t2_rb x := Int32.toInt.inj (by rw [hv, t2_rbi])
  rw [this]
  exact k
theorem t2_pbi {v x : Int32} {n : Nat} (hx : x.toInt = n) (h : t2_lp v.toInt n) : x = t2_pb v := by
  have h2 : t2_lp v.toInt (Classical.epsilon (fun n => t2_lp v.toInt n)) := Classical.epsilon_spec ⟨n, h⟩
  have h3 := t2_lp_u h h2
  unfold t2_pb
  rw [← h3]
  refine Int32.toInt.inj ?_
  rw [hx, at_ofN (by have := h.1; omega)]
theorem t2_pb_q {v : Int32} (k : Q (some (.inl (t2_pb v))) (f, l)) : fl_Tq (pw_P L xs) 179 0 (fl_args (am_mxl (pw_P L xs) 179) [.inl v]) [] (f, l) Q := by
  refine t2_byVolts (fun x n hx hn => ?_)
  rw [t2_pbi hx hn]
  exact k
theorem r_leastBy_q {v : Int32} (hr : t2_RS f) (k : Q (some (.inl (t2_pb v))) (f, l)) : fl_Tq (pw_P L xs) 223 0 (fl_args (am_mxl (pw_P L xs) 223) [at_this, .inl v]) [] (f, l) Q := by
  refine t2_leastBy (m := (f, l)) hr (fun x n hx hn => ?_)
  rw [t2_pbi hx hn]
  exact k
end T2RB
theorem fl_Tq.swI {P : am_Pg} {mi pc t : Nat} {d lo hi k : Int} {offs : Array Int} {x : Int32} {lv : fl_L} {r : List fl_V} {m : fl_M} {Q : Option fl_V → fl_M → Prop} (hc : am_code P mi pc = some (.tableswitch d lo hi offs)) (hok : ∀ v ∈ (.inl x :: r : List fl_V), fl_ok m.2.2 v) (hx : x.toInt = k) (hk : am_swk (Int32.ofInt k) lo hi offs = true) (ht : am_tg pc (am_sw (Int32.ofInt k) d lo hi offs) = some t) (q : fl_Tq P mi t lv r m Q) : fl_Tq P mi pc lv (.inl x :: r) m Q := by
  have e : x = Int32.ofInt k := by rw [← hx, Int32.ofInt_toInt]
  refine fl_Tq.stp hc rfl hok ?_ q
  show (bif am_swk x lo hi offs then fl_go pc (am_sw x d lo hi offs) lv r m else none) = _
  rw [e, hk]
  show fl_go pc (am_sw (Int32.ofInt k) d lo hi offs) lv r m = _
  unfold fl_go
  rw [ht]
theorem fl_Tq.swD {P : am_Pg} {mi pc t : Nat} {d lo hi : Int} {offs : Array Int} {x : Int32} {lv : fl_L} {r : List fl_V} {m : fl_M} {Q : Option fl_V → fl_M → Prop} (hc : am_code P mi pc = some (.tableswitch d lo hi offs)) (hok : ∀ v ∈ (.inl x :: r : List fl_V), fl_ok m.2.2 v) (hx : x.toInt < lo ∨ hi < x.toInt) (ht : am_tg pc d = some t) (q : fl_Tq P mi t lv r m Q) : fl_Tq P mi pc lv (.inl x :: r) m Q := by
  refine fl_Tq.stp hc rfl hok ?_ q
  show (bif am_swk x lo hi offs then fl_go pc (am_sw x d lo hi offs) lv r m else none) = _
  have e1 : am_swk x lo hi offs = true := by
    unfold am_swk
    rw [decide_eq_true hx]
    rfl
  have e2 : am_sw x d lo hi offs = d := by
    unfold am_sw
    rw [if_pos hx]
  rw [e1, e2]
  show fl_go pc d lv r m = _
  unfold fl_go
  rw [ht]
def t2_cap (x : Int32) : Prop := 100 ≤ x.toInt ∧ x.toInt ≤ 9999
theorem t2_full_i {x : Int32} (h : t2_cap x) : (x * (3600 : Int32)).toInt = x.toInt * 3600 := by
  obtain ⟨h1, h2⟩ := h
  have e : (3600 : Int32).toInt = 3600 := by decide +kernel
  rw [at_mul32] <;> rw [e] <;> omega
theorem t2_heldTo_b {v lo hi : Int32} (h : lo.toInt ≤ hi.toInt) : lo.toInt ≤ (t2_heldTo_v v lo hi).toInt ∧ (t2_heldTo_v v lo hi).toInt ≤ hi.toInt := by
  unfold t2_heldTo_v
  split
  · omega
  · split <;> omega
theorem t2_i64 (x : Int32) : x.toInt64.toInt = x.toInt := Int32.toInt_toInt64 x
theorem t2_partOf_b {c x : Int32} (h1 : 0 ≤ c.toInt) (h2 : c.toInt ≤ x.toInt) : (t2_partOf_v c x).toInt = (if 0 < x.toInt then c.toInt * 1000 / x.toInt else 0) ∧ 0 ≤ (t2_partOf_v c x).toInt ∧ (t2_partOf_v c x).toInt ≤ 1000 := by
  unfold t2_partOf_v
  split
  · rename_i hx
    have b1 := at_i32 c
    have b2 := at_i32 x
    have e1 : (c.toInt64 * (1000 : Int64)).toInt = c.toInt * 1000 := by
      rw [Int64.toInt_mul, t2_i64]
      have : (1000 : Int64).toInt = 1000 := by decide +kernel
      rw [this]
      exact Int.bmod_eq_of_le (by omega) (by omega)
    have q1 : 0 ≤ c.toInt * 1000 / x.toInt := Int.ediv_nonneg (by omega) (by omega)
    have q2 : c.toInt * 1000 / x.toInt ≤ 1000 := by
      refine Int.ediv_le_of_le_mul hx ?_
      have := Int.mul_le_mul_of_nonneg_right h2 (show (0 : Int) ≤ 1000 by omega)
      rw [Int.mul_comm 1000]
      exact this
    have e2 : (c.toInt64 * (1000 : Int64) / x.toInt64).toInt = c.toInt * 1000 / x.toInt := by
      rw [Int64.toInt_div, e1, t2_i64, Int.tdiv_eq_ediv_of_nonneg (by omega)]
      exact Int.bmod_eq_of_le (by omega) (by omega)
    have e3 : ((c.toInt64 * (1000 : Int64)) / x.toInt64).toInt32.toInt = c.toInt * 1000 / x.toInt := by
      rw [Int64.toInt_toInt32, e2]
      exact Int.bmod_eq_of_le (by omega) (by omega)
    rw [e3]
    exact ⟨rfl, q1, q2⟩
  · refine ⟨rfl, ?_, ?_⟩ <;> decide +kernel
theorem t2_ph {v x : Int32} (h : t2_cap x) : 0 ≤ (t2_partOf_v (t2_heldTo_v v (0 : Int32) (x * (3600 : Int32))) (x * (3600 : Int32))).toInt := by
  have e := t2_full_i h
  have h0 : (0 : Int32).toInt = 0 := rfl
  have := t2_heldTo_b (v := v) (lo := 0) (hi := x * (3600 : Int32)) (by rw [e, h0]; have := h.1; omega)
  exact (t2_partOf_b (by omega) this.2).2.1
theorem t2_abs_nz {x : Int32} (h : ¬ (t2_abs_v x).toInt < (1000 : Int32).toInt) : x ≠ 0 := by
  intro e
  apply h
  rw [e]
  decide +kernel
theorem t2_way_nz {x : Int32} (h : ¬ x.toInt < (100 : Int32).toInt) : x.toInt64 * (3600 : Int64) ≠ 0 := by
  intro e
  have h1 := congrArg Int64.toInt e
  have b := at_i32 x
  have e100 : (100 : Int32).toInt = 100 := by decide +kernel
  have e36 : (3600 : Int64).toInt = 3600 := by decide +kernel
  rw [Int64.toInt_mul, t2_i64, e36, Int.bmod_eq_of_le (by omega) (by omega)] at h1
  have : (0 : Int64).toInt = 0 := rfl
  omega
theorem fl_Tq.gfR {P : am_Pg} {mi pc i p p' d τ τ' : Nat} {lv : fl_L} {r : List fl_V} {m : fl_M} {Q : Option fl_V → fl_M → Prop} (hc : am_code P mi pc = some (.getfield i)) (hok : ∀ u ∈ (.inr (.inr (.inl (τ, p))) :: r : List fl_V), fl_ok m.2.2 u) (hst : fl_gf P (am_own P mi) i pc lv (.inr (.inr (.inl (τ, p))) :: r) m = some (pc + 3, lv, .inr (.inr (.inl (τ', p + d))) :: r, m)) (he : p + d = p') (q : fl_Tq P mi (pc + 3) lv (.inr (.inr (.inl (τ', p'))) :: r) m Q) : fl_Tq P mi pc lv (.inr (.inr (.inl (τ, p))) :: r) m Q := by
  subst he
  exact fl_Tq.stp hc rfl hok hst q
theorem t2_lk {k n : Nat} {b : Int32} (hk : k < n) (hb : b.toInt = n) : (Int32.ofNat k).toInt < b.toInt := by
  have := at_i32 b
  rw [hb, at_ofN (by omega)]
  omega
theorem t2_ln {n : Nat} {b : Int32} (hb : b.toInt = n) : ¬ ((Int32.ofNat n).toInt < b.toInt) := by
  have := at_i32 b
  rw [hb, at_ofN (by omega)]
  omega
theorem t2_for {n : Nat} {S : Nat → Prop} (hs : ∀ k : Nat, k < n → S (k + 1) → S k) (h : S n) : S 0 := by
  have H : ∀ d k : Nat, k + d = n → S k := by
    intro d
    induction d with
    | zero =>
      intro k e
      have : k = n := by omega
      rw [this]
      exact h
    | succ d ih =>
      intro k e
      exact hs k (by omega) (ih (k + 1) (by omega))
  exact H n 0 (by omega)
theorem t2_k1 (k : Nat) : Int32.ofNat k + (1 : Int32) = Int32.ofNat (k + 1) := by
  exact (Int32.ofNat_add k 1).symm
theorem t2_nn {x : Int32} (h : 0 ≤ x.toInt) : x.toInt = ((x.toInt.toNat : Nat) : Int) := by omega
theorem t2_i2 {k : Nat} (h : k < 1000) : (Int32.ofNat k * (2 : Int32)).toInt = ((2 * k : Nat) : Int) := by
  have e : (2 : Int32).toInt = 2 := by decide +kernel
  have ek := at_ofN (k := k) (by omega)
  rw [at_mul32] <;> rw [e, ek] <;> omega
theorem t2_i21 {k : Nat} (h : k < 1000) : (Int32.ofNat k * (2 : Int32) + (1 : Int32)).toInt = ((2 * k + 1 : Nat) : Int) := by
  have e : (1 : Int32).toInt = 1 := by decide +kernel
  have ek := t2_i2 h
  rw [at_add32] <;> rw [e, ek] <;> omega
def fl_le : fl_L → fl_L → Prop
  | [], _ => True
  | none :: r, _ :: r' => fl_le r r'
  | some a :: r, b :: r' => b = some a ∧ fl_le r r'
  | _ :: _, [] => False
theorem fl_le_ok : ∀ {a b : fl_L}, fl_le a b → ∀ (j : Nat) (w : fl_V), a[j]? = some (some w) → b[j]? = some (some w) := by
  intro a
  induction a with
  | nil => intro b _ j w h; simp at h
  | cons x r ih =>
    intro b hb j w h
    cases b with
    | nil => cases x <;> exact hb.elim
    | cons y r' =>
      cases x with
      | none =>
        cases j with
        | zero => simp at h
        | succ j => exact ih (b := r') hb j w h
      | some a =>
        cases j with
        | zero =>
          have h : a = w := by simpa using h
          rw [← h]
          have := hb.1
          simp [this]
        | succ j => exact ih (b := r') hb.2 j w h
theorem fl_Tq.fg {P : am_Pg} {mi pc : Nat} {lv lv' : fl_L} {st : List fl_V} {m : fl_M} {Q : Option fl_V → fl_M → Prop} (h : fl_Tq P mi pc lv st m Q) (hle : fl_le lv lv') : fl_Tq P mi pc lv' st m Q :=
  fun la hl => h la (fun j w e => hl j w (fl_le_ok hle j w e))
theorem t2_ia {a b : Int32} {A B : Nat} (ha : a.toInt = (A : Int)) (hb : b.toInt = (B : Int)) (h : A + B < 2147483648) : (a + b).toInt = ((A + B : Nat) : Int) := by
  rw [at_add32] <;> rw [ha, hb] <;> omega
theorem t2_is {a b : Int32} {A B : Nat} (ha : a.toInt = (A : Int)) (hb : b.toInt = (B : Int)) (h : B ≤ A) : (a - b).toInt = ((A - B : Nat) : Int) := by
  have := at_i32 a
  have := at_i32 b
  rw [at_sub32] <;> rw [ha, hb] <;> omega
theorem t2_im {a b : Int32} {A B : Nat} (ha : a.toInt = (A : Int)) (hb : b.toInt = (B : Int)) (h : A * B < 2147483648) : (a * b).toInt = ((A * B : Nat) : Int) := by
  have e : ((A * B : Nat) : Int) = (A : Int) * (B : Int) := Int.natCast_mul A B
  have h0 : (0 : Int) ≤ (A : Int) * (B : Int) := by rw [← e]; omega
  rw [at_mul32] <;> rw [ha, hb]
  · exact e.symm
  · omega
  · rw [← e]; omega
theorem t2_Em {α : Type} {E : Nat → Option α} (hm : ∀ (k : Nat) (r : α), E k = some r → E (k + 1) = some r) {k n : Nat} {r : α} (h : E k = some r) (hk : k ≤ n) : E n = some r := by
  obtain ⟨d, rfl⟩ := Nat.exists_eq_add_of_le hk
  clear hk
  induction d with
  | zero => exact h
  | succ d ih => exact hm _ _ ih
theorem t2_forE {α : Type} {n : Nat} {E : Nat → Option α} {S : Nat → Prop} (hs : ∀ k : Nat, k < n → E k = none → (E (k + 1) = none → S (k + 1)) → S k) (h0 : E 0 = none) (h : E n = none → S n) : S 0 := by
  have H : ∀ d k : Nat, k + d = n → E k = none → S k := by
    intro d
    induction d with
    | zero =>
      intro k e he
      have : k = n := by omega
      rw [this] at he ⊢
      exact h he
    | succ d ih =>
      intro k e he
      exact hs k (by omega) he (fun h1 => ih (k + 1) (by omega) h1)
  exact H n 0 (by omega) h0
theorem t2_tx {x d : Int32} {D : Nat} (hd : d.toInt = D) (h1 : D ≤ x.toInt) (h2 : x.toInt ≤ 32) (h3 : 2 ≤ D) : 0 ≤ (x - d).toInt ∧ (x - d).toInt + 1 < 32 := by
  rw [at_sub32] <;> rw [hd] <;> omega
def t2_pt (x : Int32) : Prop := 0 ≤ x.toInt ∧ x.toInt ≤ 9999000
def t2_p32 (g : Nat → Int32) : Prop := ∀ k : Nat, k < 32 → t2_pt (g k)
theorem t2_p32.upd {g : Nat → Int32} {j : Nat} {x : Int32} (h : t2_p32 g) (hx : t2_pt x) : t2_p32 (upd g j x) := fun k hk => by
  by_cases e : k = j
  · subst e
    rw [upd_self]
    exact hx
  · rw [upd_ne e]
    exact h k hk
theorem t2_p32.cpy {g : Nat → Int32} (h : t2_p32 g) : t2_p32 (va_cpy g g 1 0 31) := fun k hk => by
  unfold va_cpy
  split
  · exact h _ (by omega)
  · exact h k hk
theorem t2_cyi {x : Int32} (hx : 0 ≤ x.toInt) : 0 ≤ (t2_min_v (x / (100 : Int32)) (10 : Int32)).toInt ∧ (t2_min_v (x / (100 : Int32)) (10 : Int32)).toInt ≤ 10 := by
  have e : (100 : Int32).toInt = 100 := by decide +kernel
  have e1 : (10 : Int32).toInt = 10 := by decide +kernel
  have d := at_div32 (x := x) (y := (100 : Int32)) hx (by omega)
  rw [e] at d
  unfold t2_min_v
  split <;> omega

end

/-! 91.05.g2.lean.txt -/
section
noncomputable def r_isIn_v (x lo hi : Int32) : Int32 := if x.toInt < lo.toInt then (0 : Int32) else (if hi.toInt < x.toInt then (0 : Int32) else (1 : Int32))
theorem r_isIn_q {L : Nat} {xs : Nat → Int32} {f : t2_F} {l : t2_L} {Q : Option fl_V → fl_M → Prop} {x lo hi : Int32}  (k : Q (some (.inl (r_isIn_v x lo hi))) (f, l)) : fl_Tq (pw_P L xs) 185 0 (fl_args (am_mxl (pw_P L xs) 185) [.inl x, .inl lo, .inl hi]) [] (f, l) Q := by
  refine fl_Tq.stp (pc' := 1) (lv' := [some (.inl x), some (.inl lo), some (.inl hi)]) (st' := [.inl x]) (m' := (f, l)) rfl rfl (fl_bo rfl) rfl ?_
  refine fl_Tq.stp (pc' := 2) (lv' := [some (.inl x), some (.inl lo), some (.inl hi)]) (st' := [.inl lo, .inl x]) (m' := (f, l)) rfl rfl (fl_bo rfl) rfl ?_
  by_cases h1 : x.toInt < lo.toInt
  · refine fl_Tq.jt rfl (fl_bo rfl) (c2_lt_t h1) rfl ?_
    refine fl_Tq.cI (c := (0 : Int32)) rfl (by decide +kernel) (fl_bo rfl) ?_
    refine fl_Tq.ret rfl rfl rfl ?_
    unfold r_isIn_v at k
    simp only [if_pos h1] at k
    exact k
  · refine fl_Tq.jf rfl (fl_bo rfl) (c2_lt_f h1) rfl ?_
    refine fl_Tq.stp (pc' := 6) (lv' := [some (.inl x), some (.inl lo), some (.inl hi)]) (st' := [.inl x]) (m' := (f, l)) rfl rfl (fl_bo rfl) rfl ?_
    refine fl_Tq.stp (pc' := 7) (lv' := [some (.inl x), some (.inl lo), some (.inl hi)]) (st' := [.inl hi, .inl x]) (m' := (f, l)) rfl rfl (fl_bo rfl) rfl ?_
    by_cases h2 : hi.toInt < x.toInt
    · refine fl_Tq.jt rfl (fl_bo rfl) (c2_gt_t h2) rfl ?_
      refine fl_Tq.cI (c := (0 : Int32)) rfl (by decide +kernel) (fl_bo rfl) ?_
      refine fl_Tq.ret rfl rfl rfl ?_
      unfold r_isIn_v at k
      simp only [if_neg h1, if_pos h2] at k
      exact k
    · refine fl_Tq.jf rfl (fl_bo rfl) (c2_gt_f h2) rfl ?_
      refine fl_Tq.cI (c := (1 : Int32)) rfl (by decide +kernel) (fl_bo rfl) ?_
      refine fl_Tq.stp (pc' := 15) (lv' := [some (.inl x), some (.inl lo), some (.inl hi)]) (st' := [.inl (1 : Int32)]) (m' := (f, l)) rfl rfl (fl_bo rfl) rfl ?_
      refine fl_Tq.ret rfl rfl rfl ?_
      unfold r_isIn_v at k
      simp only [if_neg h1, if_neg h2] at k
      exact k
noncomputable def r_held_v (x lo hi : Int32) : Int32 := if x.toInt < lo.toInt then lo else (if hi.toInt < x.toInt then hi else x)
theorem r_held_q {L : Nat} {xs : Nat → Int32} {f : t2_F} {l : t2_L} {Q : Option fl_V → fl_M → Prop} {x lo hi : Int32}  (k : Q (some (.inl (r_held_v x lo hi))) (f, l)) : fl_Tq (pw_P L xs) 186 0 (fl_args (am_mxl (pw_P L xs) 186) [.inl x, .inl lo, .inl hi]) [] (f, l) Q := by
  refine fl_Tq.stp (pc' := 1) (lv' := [some (.inl x), some (.inl lo), some (.inl hi)]) (st' := [.inl x]) (m' := (f, l)) rfl rfl (fl_bo rfl) rfl ?_
  refine fl_Tq.stp (pc' := 2) (lv' := [some (.inl x), some (.inl lo), some (.inl hi)]) (st' := [.inl lo, .inl x]) (m' := (f, l)) rfl rfl (fl_bo rfl) rfl ?_
  have hj24 : fl_Tq (pw_P L xs) 186 19 [some (.inl x), some (.inl lo), some (.inl hi)] [.inl (if x.toInt < lo.toInt then lo else (if hi.toInt < x.toInt then hi else x))] (f, l) Q → fl_Tq (pw_P L xs) 186 2 [some (.inl x), some (.inl lo), some (.inl hi)] [.inl lo, .inl x] (f, l) Q := by
    intro hJ
    by_cases h1 : x.toInt < lo.toInt
    · refine fl_Tq.jf rfl (fl_bo rfl) (c2_ge_f h1) rfl ?_
      refine fl_Tq.stp (pc' := 6) (lv' := [some (.inl x), some (.inl lo), some (.inl hi)]) (st' := [.inl lo]) (m' := (f, l)) rfl rfl (fl_bo rfl) rfl ?_
      refine fl_Tq.stp (pc' := 19) (lv' := [some (.inl x), some (.inl lo), some (.inl hi)]) (st' := [.inl lo]) (m' := (f, l)) rfl rfl (fl_bo rfl) rfl ?_
      have e0 : (if x.toInt < lo.toInt then lo else (if hi.toInt < x.toInt then hi else x)) = lo := by simp only [if_pos h1]
      rw [e0] at hJ
      exact hJ
    · refine fl_Tq.jt rfl (fl_bo rfl) (c2_ge_t h1) rfl ?_
      refine fl_Tq.stp (pc' := 10) (lv' := [some (.inl x), some (.inl lo), some (.inl hi)]) (st' := [.inl x]) (m' := (f, l)) rfl rfl (fl_bo rfl) rfl ?_
      refine fl_Tq.stp (pc' := 11) (lv' := [some (.inl x), some (.inl lo), some (.inl hi)]) (st' := [.inl hi, .inl x]) (m' := (f, l)) rfl rfl (fl_bo rfl) rfl ?_
      by_cases h2 : hi.toInt < x.toInt
      · refine fl_Tq.jf rfl (fl_bo rfl) (c2_le_f h2) rfl ?_
        refine fl_Tq.stp (pc' := 15) (lv' := [some (.inl x), some (.inl lo), some (.inl hi)]) (st' := [.inl hi]) (m' := (f, l)) rfl rfl (fl_bo rfl) rfl ?_
        refine fl_Tq.stp (pc' := 19) (lv' := [some (.inl x), some (.inl lo), some (.inl hi)]) (st' := [.inl hi]) (m' := (f, l)) rfl rfl (fl_bo rfl) rfl ?_
        have e0 : (if x.toInt < lo.toInt then lo else (if hi.toInt < x.toInt then hi else x)) = hi := by simp only [if_neg h1, if_pos h2]
        rw [e0] at hJ
        exact hJ
      · refine fl_Tq.jt rfl (fl_bo rfl) (c2_le_t h2) rfl ?_
        refine fl_Tq.stp (pc' := 19) (lv' := [some (.inl x), some (.inl lo), some (.inl hi)]) (st' := [.inl x]) (m' := (f, l)) rfl rfl (fl_bo rfl) rfl ?_
        have e0 : (if x.toInt < lo.toInt then lo else (if hi.toInt < x.toInt then hi else x)) = x := by simp only [if_neg h1, if_neg h2]
        rw [e0] at hJ
        exact hJ
  refine hj24 ?_
  show fl_Tq _ 186 19 [some (.inl x), some (.inl lo), some (.inl hi)] [.inl (if x.toInt < lo.toInt then lo else (if hi.toInt < x.toInt then hi else x))] (f, l) _
  exact fl_Tq.ret rfl rfl rfl k
noncomputable def r_lesser_v (x y : Int32) : Int32 := if x.toInt < y.toInt then x else y
theorem r_lesser_q {L : Nat} {xs : Nat → Int32} {f : t2_F} {l : t2_L} {Q : Option fl_V → fl_M → Prop} {x y : Int32}  (k : Q (some (.inl (r_lesser_v x y))) (f, l)) : fl_Tq (pw_P L xs) 187 0 (fl_args (am_mxl (pw_P L xs) 187) [.inl x, .inl y]) [] (f, l) Q := by
  refine fl_Tq.stp (pc' := 1) (lv' := [some (.inl x), some (.inl y)]) (st' := [.inl x]) (m' := (f, l)) rfl rfl (fl_bo rfl) rfl ?_
  refine fl_Tq.stp (pc' := 2) (lv' := [some (.inl x), some (.inl y)]) (st' := [.inl y, .inl x]) (m' := (f, l)) rfl rfl (fl_bo rfl) rfl ?_
  have hj25 : fl_Tq (pw_P L xs) 187 10 [some (.inl x), some (.inl y)] [.inl (if x.toInt < y.toInt then x else y)] (f, l) Q → fl_Tq (pw_P L xs) 187 2 [some (.inl x), some (.inl y)] [.inl y, .inl x] (f, l) Q := by
    intro hJ
    by_cases h1 : x.toInt < y.toInt
    · refine fl_Tq.jf rfl (fl_bo rfl) (c2_ge_f h1) rfl ?_
      refine fl_Tq.stp (pc' := 6) (lv' := [some (.inl x), some (.inl y)]) (st' := [.inl x]) (m' := (f, l)) rfl rfl (fl_bo rfl) rfl ?_
      refine fl_Tq.stp (pc' := 10) (lv' := [some (.inl x), some (.inl y)]) (st' := [.inl x]) (m' := (f, l)) rfl rfl (fl_bo rfl) rfl ?_
      have e0 : (if x.toInt < y.toInt then x else y) = x := by simp only [if_pos h1]
      rw [e0] at hJ
      exact hJ
    · refine fl_Tq.jt rfl (fl_bo rfl) (c2_ge_t h1) rfl ?_
      refine fl_Tq.stp (pc' := 10) (lv' := [some (.inl x), some (.inl y)]) (st' := [.inl y]) (m' := (f, l)) rfl rfl (fl_bo rfl) rfl ?_
      have e0 : (if x.toInt < y.toInt then x else y) = y := by simp only [if_neg h1]
      rw [e0] at hJ
      exact hJ
  refine hj25 ?_
  show fl_Tq _ 187 10 [some (.inl x), some (.inl y)] [.inl (if x.toInt < y.toInt then x else y)] (f, l) _
  exact fl_Tq.ret rfl rfl rfl k
noncomputable def r_size_v (x : Int32) : Int32 := if x.toInt < 0 then -x else x
theorem r_size_q {L : Nat} {xs : Nat → Int32} {f : t2_F} {l : t2_L} {Q : Option fl_V → fl_M → Prop} {x : Int32}  (k : Q (some (.inl (r_size_v x))) (f, l)) : fl_Tq (pw_P L xs) 188 0 (fl_args (am_mxl (pw_P L xs) 188) [.inl x]) [] (f, l) Q := by
  refine fl_Tq.stp (pc' := 1) (lv' := [some (.inl x)]) (st' := [.inl x]) (m' := (f, l)) rfl rfl (fl_bo rfl) rfl ?_
  have hj26 : fl_Tq (pw_P L xs) 188 10 [some (.inl x)] [.inl (if x.toInt < 0 then -x else x)] (f, l) Q → fl_Tq (pw_P L xs) 188 1 [some (.inl x)] [.inl x] (f, l) Q := by
    intro hJ
    by_cases h1 : x.toInt < 0
    · refine fl_Tq.zf rfl (fl_bo rfl) (c1_ge_f h1) rfl ?_
      refine fl_Tq.stp (pc' := 5) (lv' := [some (.inl x)]) (st' := [.inl x]) (m' := (f, l)) rfl rfl (fl_bo rfl) rfl ?_
      refine fl_Tq.stp (pc' := 6) (lv' := [some (.inl x)]) (st' := [.inl (-x)]) (m' := (f, l)) rfl rfl (fl_bo rfl) rfl ?_
      refine fl_Tq.stp (pc' := 10) (lv' := [some (.inl x)]) (st' := [.inl (-x)]) (m' := (f, l)) rfl rfl (fl_bo rfl) rfl ?_
      have e0 : (if x.toInt < 0 then -x else x) = -x := by simp only [if_pos h1]
      rw [e0] at hJ
      exact hJ
    · refine fl_Tq.zt rfl (fl_bo rfl) (c1_ge_t h1) rfl ?_
      refine fl_Tq.stp (pc' := 10) (lv' := [some (.inl x)]) (st' := [.inl x]) (m' := (f, l)) rfl rfl (fl_bo rfl) rfl ?_
      have e0 : (if x.toInt < 0 then -x else x) = x := by simp only [if_neg h1]
      rw [e0] at hJ
      exact hJ
  refine hj26 ?_
  show fl_Tq _ 188 10 [some (.inl x)] [.inl (if x.toInt < 0 then -x else x)] (f, l) _
  exact fl_Tq.ret rfl rfl rfl k
noncomputable def r_floor_v (x y : Int32) : Int32 := if x.toInt < 0 then -(((y - (1 : Int32)) - x) / y) else x / y
theorem r_floor_q {L : Nat} {xs : Nat → Int32} {f : t2_F} {l : t2_L} {Q : Option fl_V → fl_M → Prop} {x y : Int32} (hy : y ≠ 0) (k : Q (some (.inl (r_floor_v x y))) (f, l)) : fl_Tq (pw_P L xs) 189 0 (fl_args (am_mxl (pw_P L xs) 189) [.inl x, .inl y]) [] (f, l) Q := by
  refine fl_Tq.stp (pc' := 1) (lv' := [some (.inl x), some (.inl y)]) (st' := [.inl x]) (m' := (f, l)) rfl rfl (fl_bo rfl) rfl ?_
  have hj27 : fl_Tq (pw_P L xs) 189 18 [some (.inl x), some (.inl y)] [.inl (if x.toInt < 0 then -(((y - (1 : Int32)) - x) / y) else x / y)] (f, l) Q → fl_Tq (pw_P L xs) 189 1 [some (.inl x), some (.inl y)] [.inl x] (f, l) Q := by
    intro hJ
    by_cases h1 : x.toInt < 0
    · refine fl_Tq.zt rfl (fl_bo rfl) (c1_lt_t h1) rfl ?_
      refine fl_Tq.stp (pc' := 11) (lv' := [some (.inl x), some (.inl y)]) (st' := [.inl y]) (m' := (f, l)) rfl rfl (fl_bo rfl) rfl ?_
      refine fl_Tq.cI (c := (1 : Int32)) rfl (by decide +kernel) (fl_bo rfl) ?_
      refine fl_Tq.stp (pc' := 13) (lv' := [some (.inl x), some (.inl y)]) (st' := [.inl (y - (1 : Int32))]) (m' := (f, l)) rfl rfl (fl_bo rfl) rfl ?_
      refine fl_Tq.stp (pc' := 14) (lv' := [some (.inl x), some (.inl y)]) (st' := [.inl x, .inl (y - (1 : Int32))]) (m' := (f, l)) rfl rfl (fl_bo rfl) rfl ?_
      refine fl_Tq.stp (pc' := 15) (lv' := [some (.inl x), some (.inl y)]) (st' := [.inl ((y - (1 : Int32)) - x)]) (m' := (f, l)) rfl rfl (fl_bo rfl) rfl ?_
      refine fl_Tq.stp (pc' := 16) (lv' := [some (.inl x), some (.inl y)]) (st' := [.inl y, .inl ((y - (1 : Int32)) - x)]) (m' := (f, l)) rfl rfl (fl_bo rfl) rfl ?_
      refine fl_Tq.dv rfl (fl_bo rfl) hy ?_
      refine fl_Tq.stp (pc' := 18) (lv' := [some (.inl x), some (.inl y)]) (st' := [.inl (-(((y - (1 : Int32)) - x) / y))]) (m' := (f, l)) rfl rfl (fl_bo rfl) rfl ?_
      have e0 : (if x.toInt < 0 then -(((y - (1 : Int32)) - x) / y) else x / y) = -(((y - (1 : Int32)) - x) / y) := by simp only [if_pos h1]
      rw [e0] at hJ
      exact hJ
    · refine fl_Tq.zf rfl (fl_bo rfl) (c1_lt_f h1) rfl ?_
      refine fl_Tq.stp (pc' := 5) (lv' := [some (.inl x), some (.inl y)]) (st' := [.inl x]) (m' := (f, l)) rfl rfl (fl_bo rfl) rfl ?_
      refine fl_Tq.stp (pc' := 6) (lv' := [some (.inl x), some (.inl y)]) (st' := [.inl y, .inl x]) (m' := (f, l)) rfl rfl (fl_bo rfl) rfl ?_
      refine fl_Tq.dv rfl (fl_bo rfl) hy ?_
      refine fl_Tq.stp (pc' := 18) (lv' := [some (.inl x), some (.inl y)]) (st' := [.inl (x / y)]) (m' := (f, l)) rfl rfl (fl_bo rfl) rfl ?_
      have e0 : (if x.toInt < 0 then -(((y - (1 : Int32)) - x) / y) else x / y) = x / y := by simp only [if_neg h1]
      rw [e0] at hJ
      exact hJ
  refine hj27 ?_
  show fl_Tq _ 189 18 [some (.inl x), some (.inl y)] [.inl (if x.toInt < 0 then -(((y - (1 : Int32)) - x) / y) else x / y)] (f, l) _
  exact fl_Tq.ret rfl rfl rfl k
noncomputable def r_has_v (x y : Int32) : Int32 := if ((x >>> (y &&& 31)) &&& (1 : Int32)).toInt = (1 : Int32).toInt then (1 : Int32) else (0 : Int32)
theorem r_has_q {L : Nat} {xs : Nat → Int32} {f : t2_F} {l : t2_L} {Q : Option fl_V → fl_M → Prop} {x y : Int32}  (k : Q (some (.inl (r_has_v x y))) (f, l)) : fl_Tq (pw_P L xs) 190 0 (fl_args (am_mxl (pw_P L xs) 190) [.inl x, .inl y]) [] (f, l) Q := by
  refine fl_Tq.stp (pc' := 1) (lv' := [some (.inl x), some (.inl y)]) (st' := [.inl x]) (m' := (f, l)) rfl rfl (fl_bo rfl) rfl ?_
  refine fl_Tq.stp (pc' := 2) (lv' := [some (.inl x), some (.inl y)]) (st' := [.inl y, .inl x]) (m' := (f, l)) rfl rfl (fl_bo rfl) rfl ?_
  refine fl_Tq.stp (pc' := 3) (lv' := [some (.inl x), some (.inl y)]) (st' := [.inl (x >>> (y &&& 31))]) (m' := (f, l)) rfl rfl (fl_bo rfl) rfl ?_
  refine fl_Tq.cI (c := (1 : Int32)) rfl (by decide +kernel) (fl_bo rfl) ?_
  refine fl_Tq.stp (pc' := 5) (lv' := [some (.inl x), some (.inl y)]) (st' := [.inl ((x >>> (y &&& 31)) &&& (1 : Int32))]) (m' := (f, l)) rfl rfl (fl_bo rfl) rfl ?_
  refine fl_Tq.cI (c := (1 : Int32)) rfl (by decide +kernel) (fl_bo rfl) ?_
  by_cases h1 : ((x >>> (y &&& 31)) &&& (1 : Int32)).toInt = (1 : Int32).toInt
  · refine fl_Tq.jf rfl (fl_bo rfl) (c2_ne_f h1) rfl ?_
    refine fl_Tq.cI (c := (1 : Int32)) rfl (by decide +kernel) (fl_bo rfl) ?_
    refine fl_Tq.stp (pc' := 14) (lv' := [some (.inl x), some (.inl y)]) (st' := [.inl (1 : Int32)]) (m' := (f, l)) rfl rfl (fl_bo rfl) rfl ?_
    refine fl_Tq.ret rfl rfl rfl ?_
    unfold r_has_v at k
    simp only [if_pos h1] at k
    exact k
  · refine fl_Tq.jt rfl (fl_bo rfl) (c2_ne_t h1) rfl ?_
    refine fl_Tq.cI (c := (0 : Int32)) rfl (by decide +kernel) (fl_bo rfl) ?_
    refine fl_Tq.ret rfl rfl rfl ?_
    unfold r_has_v at k
    simp only [if_neg h1] at k
    exact k
noncomputable def r_full_v (f : t2_F) (c : Int32) (C : Nat) : Int32 := (3600 : Int32) * (f 280 (444 + 61 * C + 0))
theorem r_full_q {L : Nat} {xs : Nat → Int32} {f : t2_F} {l : t2_L} {Q : Option fl_V → fl_M → Prop} {c : Int32} {C : Nat} (hc : c.toInt = (C : Int)) (hC : C < 16) (k : Q (some (.inl (r_full_v f c C))) (f, l)) : fl_Tq (pw_P L xs) 195 0 (fl_args (am_mxl (pw_P L xs) 195) [.inr (.inr (.inl (76, 277))), .inl c]) [] (f, l) Q := by
  refine fl_Tq.cS (c := (3600 : Int32)) rfl (by decide +kernel) (fl_bo rfl) ?_
  refine fl_Tq.stp (pc' := 4) (lv' := [some (.inr (.inr (.inl (76, 277)))), some (.inl c)]) (st' := [.inr (.inr (.inl (76, 277))), .inl (3600 : Int32)]) (m' := (f, l)) rfl rfl (fl_bo rfl) rfl ?_
  refine fl_Tq.stp (pc' := 5) (lv' := [some (.inr (.inr (.inl (76, 277)))), some (.inl c)]) (st' := [.inl c, .inr (.inr (.inl (76, 277))), .inl (3600 : Int32)]) (m' := (f, l)) rfl rfl (fl_bo rfl) rfl ?_
  refine fl_Tq.cI (c := (0 : Int32)) rfl (by decide +kernel) (fl_bo rfl) ?_
  refine fl_Tq.cal rfl rfl (fl_bo rfl) rfl ?_
  refine t2_get (C := C) (W := 0) (v := f 280 (444 + 61 * C + 0)) hc (by decide +kernel) hC (by decide) rfl ?_
  show fl_Tq _ 195 9 [some (.inr (.inr (.inl (76, 277)))), some (.inl c)] [.inl (f 280 (444 + 61 * C + 0)), .inl (3600 : Int32)] (f, l) _
  refine fl_Tq.stp (pc' := 10) (lv' := [some (.inr (.inr (.inl (76, 277)))), some (.inl c)]) (st' := [.inl ((3600 : Int32) * (f 280 (444 + 61 * C + 0)))]) (m' := (f, l)) rfl rfl (fl_bo rfl) rfl ?_
  exact fl_Tq.ret rfl rfl rfl k
noncomputable def r_hold_m (f : t2_F) (c : Int32) (C : Nat) : t2_F := fl_row f 280 (upd (upd (f 280) (444 + 61 * C + 1) (r_held_v (f 280 (444 + 61 * C + 1)) (0 : Int32) (r_full_v f c C))) (444 + 61 * C + 4) (r_held_v (f 280 (444 + 61 * C + 4)) (0 : Int32) (r_full_v (fl_row f 280 (upd (f 280) (444 + 61 * C + 1) (r_held_v (f 280 (444 + 61 * C + 1)) (0 : Int32) (r_full_v f c C)))) c C)))
theorem r_hold_fr {f : t2_F} {c : Int32} {C : Nat} {p : Nat}  (e280 : p ≠ 280) : r_hold_m f c C p = f p := by
  unfold r_hold_m
  repeat' split
  all_goals first | rfl | simp only [fl_row_ne e280]
theorem r_hold_w {f : t2_F} {c : Int32} {C : Nat} {w : Nat} (e0 : w ≠ 444 + 61 * C + 1) (e1 : w ≠ 444 + 61 * C + 4) : r_hold_m f c C 280 w = f 280 w := by
  unfold r_hold_m
  repeat' split
  all_goals first | rfl | simp only [fl_row_self, upd_ne e0, upd_ne e1]
theorem r_hold_q {L : Nat} {xs : Nat → Int32} {f : t2_F} {l : t2_L} {Q : Option fl_V → fl_M → Prop} {c : Int32} {C : Nat} (hc : c.toInt = (C : Int)) (hC : C < 16) (k : Q none (r_hold_m f c C, l)) : fl_Tq (pw_P L xs) 214 0 (fl_args (am_mxl (pw_P L xs) 214) [.inr (.inr (.inl (76, 277))), .inl c]) [] (f, l) Q := by
  refine fl_Tq.stp (pc' := 1) (lv' := [some (.inr (.inr (.inl (76, 277)))), some (.inl c)]) (st' := [.inr (.inr (.inl (76, 277)))]) (m' := (f, l)) rfl rfl (fl_bo rfl) rfl ?_
  refine fl_Tq.stp (pc' := 2) (lv' := [some (.inr (.inr (.inl (76, 277)))), some (.inl c)]) (st' := [.inl c, .inr (.inr (.inl (76, 277)))]) (m' := (f, l)) rfl rfl (fl_bo rfl) rfl ?_
  refine fl_Tq.cI (c := (1 : Int32)) rfl (by decide +kernel) (fl_bo rfl) ?_
  refine fl_Tq.stp (pc' := 4) (lv' := [some (.inr (.inr (.inl (76, 277)))), some (.inl c)]) (st' := [.inr (.inr (.inl (76, 277))), .inl (1 : Int32), .inl c, .inr (.inr (.inl (76, 277)))]) (m' := (f, l)) rfl rfl (fl_bo rfl) rfl ?_
  refine fl_Tq.stp (pc' := 5) (lv' := [some (.inr (.inr (.inl (76, 277)))), some (.inl c)]) (st' := [.inl c, .inr (.inr (.inl (76, 277))), .inl (1 : Int32), .inl c, .inr (.inr (.inl (76, 277)))]) (m' := (f, l)) rfl rfl (fl_bo rfl) rfl ?_
  refine fl_Tq.cI (c := (1 : Int32)) rfl (by decide +kernel) (fl_bo rfl) ?_
  refine fl_Tq.cal rfl rfl (fl_bo rfl) rfl ?_
  refine t2_get (C := C) (W := 1) (v := f 280 (444 + 61 * C + 1)) hc (by decide +kernel) hC (by decide) rfl ?_
  show fl_Tq _ 214 9 [some (.inr (.inr (.inl (76, 277)))), some (.inl c)] [.inl (f 280 (444 + 61 * C + 1)), .inl (1 : Int32), .inl c, .inr (.inr (.inl (76, 277)))] (f, l) _
  refine fl_Tq.cI (c := (0 : Int32)) rfl (by decide +kernel) (fl_bo rfl) ?_
  refine fl_Tq.stp (pc' := 11) (lv' := [some (.inr (.inr (.inl (76, 277)))), some (.inl c)]) (st' := [.inr (.inr (.inl (76, 277))), .inl (0 : Int32), .inl (f 280 (444 + 61 * C + 1)), .inl (1 : Int32), .inl c, .inr (.inr (.inl (76, 277)))]) (m' := (f, l)) rfl rfl (fl_bo rfl) rfl ?_
  refine fl_Tq.stp (pc' := 12) (lv' := [some (.inr (.inr (.inl (76, 277)))), some (.inl c)]) (st' := [.inl c, .inr (.inr (.inl (76, 277))), .inl (0 : Int32), .inl (f 280 (444 + 61 * C + 1)), .inl (1 : Int32), .inl c, .inr (.inr (.inl (76, 277)))]) (m' := (f, l)) rfl rfl (fl_bo rfl) rfl ?_
  refine fl_Tq.cal rfl rfl (fl_bo rfl) rfl ?_
  refine r_full_q hc hC ?_
  show fl_Tq _ 214 15 [some (.inr (.inr (.inl (76, 277)))), some (.inl c)] [.inl (r_full_v f c C), .inl (0 : Int32), .inl (f 280 (444 + 61 * C + 1)), .inl (1 : Int32), .inl c, .inr (.inr (.inl (76, 277)))] (f, l) _
  refine fl_Tq.cal rfl rfl (fl_bo rfl) rfl ?_
  refine r_held_q  ?_
  show fl_Tq _ 214 18 [some (.inr (.inr (.inl (76, 277)))), some (.inl c)] [.inl (r_held_v (f 280 (444 + 61 * C + 1)) (0 : Int32) (r_full_v f c C)), .inl (1 : Int32), .inl c, .inr (.inr (.inl (76, 277)))] (f, l) _
  refine fl_Tq.cal rfl rfl (fl_bo rfl) rfl ?_
  refine t2_let (C := C) (W := 1) (m' := (fl_row f 280 (upd (f 280) (444 + 61 * C + 1) (r_held_v (f 280 (444 + 61 * C + 1)) (0 : Int32) (r_full_v f c C))), l)) hc (by decide +kernel) hC (by decide) (t2_upn rfl) ?_
  show fl_Tq _ 214 21 [some (.inr (.inr (.inl (76, 277)))), some (.inl c)] [] (fl_row f 280 (upd (f 280) (444 + 61 * C + 1) (r_held_v (f 280 (444 + 61 * C + 1)) (0 : Int32) (r_full_v f c C))), l) _
  refine fl_Tq.stp (pc' := 22) (lv' := [some (.inr (.inr (.inl (76, 277)))), some (.inl c)]) (st' := [.inr (.inr (.inl (76, 277)))]) (m' := (fl_row f 280 (upd (f 280) (444 + 61 * C + 1) (r_held_v (f 280 (444 + 61 * C + 1)) (0 : Int32) (r_full_v f c C))), l)) rfl rfl (fl_bo rfl) rfl ?_
  refine fl_Tq.stp (pc' := 23) (lv' := [some (.inr (.inr (.inl (76, 277)))), some (.inl c)]) (st' := [.inl c, .inr (.inr (.inl (76, 277)))]) (m' := (fl_row f 280 (upd (f 280) (444 + 61 * C + 1) (r_held_v (f 280 (444 + 61 * C + 1)) (0 : Int32) (r_full_v f c C))), l)) rfl rfl (fl_bo rfl) rfl ?_
  refine fl_Tq.cI (c := (4 : Int32)) rfl (by decide +kernel) (fl_bo rfl) ?_
  refine fl_Tq.stp (pc' := 25) (lv' := [some (.inr (.inr (.inl (76, 277)))), some (.inl c)]) (st' := [.inr (.inr (.inl (76, 277))), .inl (4 : Int32), .inl c, .inr (.inr (.inl (76, 277)))]) (m' := (fl_row f 280 (upd (f 280) (444 + 61 * C + 1) (r_held_v (f 280 (444 + 61 * C + 1)) (0 : Int32) (r_full_v f c C))), l)) rfl rfl (fl_bo rfl) rfl ?_
  refine fl_Tq.stp (pc' := 26) (lv' := [some (.inr (.inr (.inl (76, 277)))), some (.inl c)]) (st' := [.inl c, .inr (.inr (.inl (76, 277))), .inl (4 : Int32), .inl c, .inr (.inr (.inl (76, 277)))]) (m' := (fl_row f 280 (upd (f 280) (444 + 61 * C + 1) (r_held_v (f 280 (444 + 61 * C + 1)) (0 : Int32) (r_full_v f c C))), l)) rfl rfl (fl_bo rfl) rfl ?_
  refine fl_Tq.cI (c := (4 : Int32)) rfl (by decide +kernel) (fl_bo rfl) ?_
  refine fl_Tq.cal rfl rfl (fl_bo rfl) rfl ?_
  refine t2_get (C := C) (W := 4) (v := f 280 (444 + 61 * C + 4)) hc (by decide +kernel) hC (by decide) (by simp only [fl_row_self, upd_ne (by omega : 444 + 61 * C + 4 ≠ 444 + 61 * C + 1)]) ?_
  show fl_Tq _ 214 30 [some (.inr (.inr (.inl (76, 277)))), some (.inl c)] [.inl (f 280 (444 + 61 * C + 4)), .inl (4 : Int32), .inl c, .inr (.inr (.inl (76, 277)))] (fl_row f 280 (upd (f 280) (444 + 61 * C + 1) (r_held_v (f 280 (444 + 61 * C + 1)) (0 : Int32) (r_full_v f c C))), l) _
  refine fl_Tq.cI (c := (0 : Int32)) rfl (by decide +kernel) (fl_bo rfl) ?_
  refine fl_Tq.stp (pc' := 32) (lv' := [some (.inr (.inr (.inl (76, 277)))), some (.inl c)]) (st' := [.inr (.inr (.inl (76, 277))), .inl (0 : Int32), .inl (f 280 (444 + 61 * C + 4)), .inl (4 : Int32), .inl c, .inr (.inr (.inl (76, 277)))]) (m' := (fl_row f 280 (upd (f 280) (444 + 61 * C + 1) (r_held_v (f 280 (444 + 61 * C + 1)) (0 : Int32) (r_full_v f c C))), l)) rfl rfl (fl_bo rfl) rfl ?_
  refine fl_Tq.stp (pc' := 33) (lv' := [some (.inr (.inr (.inl (76, 277)))), some (.inl c)]) (st' := [.inl c, .inr (.inr (.inl (76, 277))), .inl (0 : Int32), .inl (f 280 (444 + 61 * C + 4)), .inl (4 : Int32), .inl c, .inr (.inr (.inl (76, 277)))]) (m' := (fl_row f 280 (upd (f 280) (444 + 61 * C + 1) (r_held_v (f 280 (444 + 61 * C + 1)) (0 : Int32) (r_full_v f c C))), l)) rfl rfl (fl_bo rfl) rfl ?_
  refine fl_Tq.cal rfl rfl (fl_bo rfl) rfl ?_
  refine r_full_q hc hC ?_
  show fl_Tq _ 214 36 [some (.inr (.inr (.inl (76, 277)))), some (.inl c)] [.inl (r_full_v (fl_row f 280 (upd (f 280) (444 + 61 * C + 1) (r_held_v (f 280 (444 + 61 * C + 1)) (0 : Int32) (r_full_v f c C)))) c C), .inl (0 : Int32), .inl (f 280 (444 + 61 * C + 4)), .inl (4 : Int32), .inl c, .inr (.inr (.inl (76, 277)))] (fl_row f 280 (upd (f 280) (444 + 61 * C + 1) (r_held_v (f 280 (444 + 61 * C + 1)) (0 : Int32) (r_full_v f c C))), l) _
  refine fl_Tq.cal rfl rfl (fl_bo rfl) rfl ?_
  refine r_held_q  ?_
  show fl_Tq _ 214 39 [some (.inr (.inr (.inl (76, 277)))), some (.inl c)] [.inl (r_held_v (f 280 (444 + 61 * C + 4)) (0 : Int32) (r_full_v (fl_row f 280 (upd (f 280) (444 + 61 * C + 1) (r_held_v (f 280 (444 + 61 * C + 1)) (0 : Int32) (r_full_v f c C)))) c C)), .inl (4 : Int32), .inl c, .inr (.inr (.inl (76, 277)))] (fl_row f 280 (upd (f 280) (444 + 61 * C + 1) (r_held_v (f 280 (444 + 61 * C + 1)) (0 : Int32) (r_full_v f c C))), l) _
  refine fl_Tq.cal rfl rfl (fl_bo rfl) rfl ?_
  refine t2_let (C := C) (W := 4) (m' := (fl_row f 280 (upd (upd (f 280) (444 + 61 * C + 1) (r_held_v (f 280 (444 + 61 * C + 1)) (0 : Int32) (r_full_v f c C))) (444 + 61 * C + 4) (r_held_v (f 280 (444 + 61 * C + 4)) (0 : Int32) (r_full_v (fl_row f 280 (upd (f 280) (444 + 61 * C + 1) (r_held_v (f 280 (444 + 61 * C + 1)) (0 : Int32) (r_full_v f c C)))) c C))), l)) hc (by decide +kernel) hC (by decide) (t2_upr) ?_
  show fl_Tq _ 214 42 [some (.inr (.inr (.inl (76, 277)))), some (.inl c)] [] (fl_row f 280 (upd (upd (f 280) (444 + 61 * C + 1) (r_held_v (f 280 (444 + 61 * C + 1)) (0 : Int32) (r_full_v f c C))) (444 + 61 * C + 4) (r_held_v (f 280 (444 + 61 * C + 4)) (0 : Int32) (r_full_v (fl_row f 280 (upd (f 280) (444 + 61 * C + 1) (r_held_v (f 280 (444 + 61 * C + 1)) (0 : Int32) (r_full_v f c C)))) c C))), l) _
  exact fl_Tq.ret rfl rfl rfl k
noncomputable def r_goWarm_m (f : t2_F) (c : Int32) (C : Nat) : t2_F := fl_row f 280 (upd (upd (f 280) (444 + 61 * C + 1) (r_held_v (((f 280 (444 + 61 * C + 1)) + (f 280 5)) - (f 280 61)) (0 : Int32) (r_full_v f c C))) (444 + 61 * C + 3) (((f 280 (444 + 61 * C + 3)) + (((((f 280 5) / (1000 : Int32)) * ((f 280 5) / (1000 : Int32))) * (f 280 (444 + 61 * C + 2))) / (500 : Int32))) + (((f 280 40) - ((f 280 (444 + 61 * C + 3)) + (((((f 280 5) / (1000 : Int32)) * ((f 280 5) / (1000 : Int32))) * (f 280 (444 + 61 * C + 2))) / (500 : Int32)))) / (32 : Int32))))
theorem r_goWarm_fr {f : t2_F} {c : Int32} {C : Nat} {p : Nat}  (e280 : p ≠ 280) : r_goWarm_m f c C p = f p := by
  unfold r_goWarm_m
  repeat' split
  all_goals first | rfl | simp only [fl_row_ne e280]
theorem r_goWarm_w {f : t2_F} {c : Int32} {C : Nat} {w : Nat} (e0 : w ≠ 444 + 61 * C + 1) (e1 : w ≠ 444 + 61 * C + 3) : r_goWarm_m f c C 280 w = f 280 w := by
  unfold r_goWarm_m
  repeat' split
  all_goals first | rfl | simp only [fl_row_self, upd_ne e0, upd_ne e1]
theorem r_goWarm_q {L : Nat} {xs : Nat → Int32} {f : t2_F} {l : t2_L} {Q : Option fl_V → fl_M → Prop} {c : Int32} {C : Nat} (hc : c.toInt = (C : Int)) (hC : C < 16) (k : Q none (r_goWarm_m f c C, l)) : fl_Tq (pw_P L xs) 215 0 (fl_args (am_mxl (pw_P L xs) 215) [.inr (.inr (.inl (76, 277))), .inl c]) [] (f, l) Q := by
  refine fl_Tq.stp (pc' := 1) (lv' := [some (.inr (.inr (.inl (76, 277)))), some (.inl c), none]) (st' := [.inr (.inr (.inl (76, 277)))]) (m' := (f, l)) rfl rfl (fl_bo rfl) rfl ?_
  refine fl_Tq.stp (pc' := 2) (lv' := [some (.inr (.inr (.inl (76, 277)))), some (.inl c), none]) (st' := [.inl c, .inr (.inr (.inl (76, 277)))]) (m' := (f, l)) rfl rfl (fl_bo rfl) rfl ?_
  refine fl_Tq.cI (c := (1 : Int32)) rfl (by decide +kernel) (fl_bo rfl) ?_
  refine fl_Tq.stp (pc' := 4) (lv' := [some (.inr (.inr (.inl (76, 277)))), some (.inl c), none]) (st' := [.inr (.inr (.inl (76, 277))), .inl (1 : Int32), .inl c, .inr (.inr (.inl (76, 277)))]) (m' := (f, l)) rfl rfl (fl_bo rfl) rfl ?_
  refine fl_Tq.stp (pc' := 5) (lv' := [some (.inr (.inr (.inl (76, 277)))), some (.inl c), none]) (st' := [.inl c, .inr (.inr (.inl (76, 277))), .inl (1 : Int32), .inl c, .inr (.inr (.inl (76, 277)))]) (m' := (f, l)) rfl rfl (fl_bo rfl) rfl ?_
  refine fl_Tq.cI (c := (1 : Int32)) rfl (by decide +kernel) (fl_bo rfl) ?_
  refine fl_Tq.cal rfl rfl (fl_bo rfl) rfl ?_
  refine t2_get (C := C) (W := 1) (v := f 280 (444 + 61 * C + 1)) hc (by decide +kernel) hC (by decide) rfl ?_
  show fl_Tq _ 215 9 [some (.inr (.inr (.inl (76, 277)))), some (.inl c), none] [.inl (f 280 (444 + 61 * C + 1)), .inl (1 : Int32), .inl c, .inr (.inr (.inl (76, 277)))] (f, l) _
  refine fl_Tq.stp (pc' := 10) (lv' := [some (.inr (.inr (.inl (76, 277)))), some (.inl c), none]) (st' := [.inr (.inr (.inl (76, 277))), .inl (f 280 (444 + 61 * C + 1)), .inl (1 : Int32), .inl c, .inr (.inr (.inl (76, 277)))]) (m' := (f, l)) rfl rfl (fl_bo rfl) rfl ?_
  refine fl_Tq.stp (pc' := 13) (lv' := [some (.inr (.inr (.inl (76, 277)))), some (.inl c), none]) (st' := [.inr (.inr (.inl (79, 280))), .inl (f 280 (444 + 61 * C + 1)), .inl (1 : Int32), .inl c, .inr (.inr (.inl (76, 277)))]) (m' := (f, l)) rfl rfl (fl_bo rfl) rfl ?_
  refine fl_Tq.cI (c := (5 : Int32)) rfl (by decide +kernel) (fl_bo rfl) ?_
  refine fl_Tq.ldV (p := 280) (τ := 79) (n := 29780) (z := (0, 0, 0)) (k := 5) (v := f 280 5) rfl (fl_bo rfl) rfl (by decide +kernel) (by decide) rfl ?_
  refine fl_Tq.stp (pc' := 16) (lv' := [some (.inr (.inr (.inl (76, 277)))), some (.inl c), none]) (st' := [.inl ((f 280 (444 + 61 * C + 1)) + (f 280 5)), .inl (1 : Int32), .inl c, .inr (.inr (.inl (76, 277)))]) (m' := (f, l)) rfl rfl (fl_bo rfl) rfl ?_
  refine fl_Tq.stp (pc' := 17) (lv' := [some (.inr (.inr (.inl (76, 277)))), some (.inl c), none]) (st' := [.inr (.inr (.inl (76, 277))), .inl ((f 280 (444 + 61 * C + 1)) + (f 280 5)), .inl (1 : Int32), .inl c, .inr (.inr (.inl (76, 277)))]) (m' := (f, l)) rfl rfl (fl_bo rfl) rfl ?_
  refine fl_Tq.cB (c := (27 : Int32)) rfl (by decide +kernel) (fl_bo rfl) ?_
  refine fl_Tq.cal rfl rfl (fl_bo rfl) rfl ?_
  refine t2_its (W := 27) (v := f 280 61) (by decide +kernel) (by decide) rfl ?_
  show fl_Tq _ 215 22 [some (.inr (.inr (.inl (76, 277)))), some (.inl c), none] [.inl (f 280 61), .inl ((f 280 (444 + 61 * C + 1)) + (f 280 5)), .inl (1 : Int32), .inl c, .inr (.inr (.inl (76, 277)))] (f, l) _
  refine fl_Tq.stp (pc' := 23) (lv' := [some (.inr (.inr (.inl (76, 277)))), some (.inl c), none]) (st' := [.inl (((f 280 (444 + 61 * C + 1)) + (f 280 5)) - (f 280 61)), .inl (1 : Int32), .inl c, .inr (.inr (.inl (76, 277)))]) (m' := (f, l)) rfl rfl (fl_bo rfl) rfl ?_
  refine fl_Tq.cI (c := (0 : Int32)) rfl (by decide +kernel) (fl_bo rfl) ?_
  refine fl_Tq.stp (pc' := 25) (lv' := [some (.inr (.inr (.inl (76, 277)))), some (.inl c), none]) (st' := [.inr (.inr (.inl (76, 277))), .inl (0 : Int32), .inl (((f 280 (444 + 61 * C + 1)) + (f 280 5)) - (f 280 61)), .inl (1 : Int32), .inl c, .inr (.inr (.inl (76, 277)))]) (m' := (f, l)) rfl rfl (fl_bo rfl) rfl ?_
  refine fl_Tq.stp (pc' := 26) (lv' := [some (.inr (.inr (.inl (76, 277)))), some (.inl c), none]) (st' := [.inl c, .inr (.inr (.inl (76, 277))), .inl (0 : Int32), .inl (((f 280 (444 + 61 * C + 1)) + (f 280 5)) - (f 280 61)), .inl (1 : Int32), .inl c, .inr (.inr (.inl (76, 277)))]) (m' := (f, l)) rfl rfl (fl_bo rfl) rfl ?_
  refine fl_Tq.cal rfl rfl (fl_bo rfl) rfl ?_
  refine r_full_q hc hC ?_
  show fl_Tq _ 215 29 [some (.inr (.inr (.inl (76, 277)))), some (.inl c), none] [.inl (r_full_v f c C), .inl (0 : Int32), .inl (((f 280 (444 + 61 * C + 1)) + (f 280 5)) - (f 280 61)), .inl (1 : Int32), .inl c, .inr (.inr (.inl (76, 277)))] (f, l) _
  refine fl_Tq.cal rfl rfl (fl_bo rfl) rfl ?_
  refine r_held_q  ?_
  show fl_Tq _ 215 32 [some (.inr (.inr (.inl (76, 277)))), some (.inl c), none] [.inl (r_held_v (((f 280 (444 + 61 * C + 1)) + (f 280 5)) - (f 280 61)) (0 : Int32) (r_full_v f c C)), .inl (1 : Int32), .inl c, .inr (.inr (.inl (76, 277)))] (f, l) _
  refine fl_Tq.cal rfl rfl (fl_bo rfl) rfl ?_
  refine t2_let (C := C) (W := 1) (m' := (fl_row f 280 (upd (f 280) (444 + 61 * C + 1) (r_held_v (((f 280 (444 + 61 * C + 1)) + (f 280 5)) - (f 280 61)) (0 : Int32) (r_full_v f c C))), l)) hc (by decide +kernel) hC (by decide) (t2_upn rfl) ?_
  show fl_Tq _ 215 35 [some (.inr (.inr (.inl (76, 277)))), some (.inl c), none] [] (fl_row f 280 (upd (f 280) (444 + 61 * C + 1) (r_held_v (((f 280 (444 + 61 * C + 1)) + (f 280 5)) - (f 280 61)) (0 : Int32) (r_full_v f c C))), l) _
  refine fl_Tq.stp (pc' := 36) (lv' := [some (.inr (.inr (.inl (76, 277)))), some (.inl c), none]) (st' := [.inr (.inr (.inl (76, 277)))]) (m' := (fl_row f 280 (upd (f 280) (444 + 61 * C + 1) (r_held_v (((f 280 (444 + 61 * C + 1)) + (f 280 5)) - (f 280 61)) (0 : Int32) (r_full_v f c C))), l)) rfl rfl (fl_bo rfl) rfl ?_
  refine fl_Tq.stp (pc' := 39) (lv' := [some (.inr (.inr (.inl (76, 277)))), some (.inl c), none]) (st' := [.inr (.inr (.inl (79, 280)))]) (m' := (fl_row f 280 (upd (f 280) (444 + 61 * C + 1) (r_held_v (((f 280 (444 + 61 * C + 1)) + (f 280 5)) - (f 280 61)) (0 : Int32) (r_full_v f c C))), l)) rfl rfl (fl_bo rfl) rfl ?_
  refine fl_Tq.cI (c := (5 : Int32)) rfl (by decide +kernel) (fl_bo rfl) ?_
  refine fl_Tq.ldV (p := 280) (τ := 79) (n := 29780) (z := (0, 0, 0)) (k := 5) (v := f 280 5) rfl (fl_bo rfl) rfl (by decide +kernel) (by decide) (by simp only [fl_row_self, upd_ne (by omega : 5 ≠ 444 + 61 * C + 1)]) ?_
  refine fl_Tq.cS (c := (1000 : Int32)) rfl (by decide +kernel) (fl_bo rfl) ?_
  refine fl_Tq.dv rfl (fl_bo rfl) (by decide +kernel) ?_
  refine fl_Tq.stp (pc' := 46) (lv' := [some (.inr (.inr (.inl (76, 277)))), some (.inl c), some (.inl ((f 280 5) / (1000 : Int32)))]) (st' := []) (m' := (fl_row f 280 (upd (f 280) (444 + 61 * C + 1) (r_held_v (((f 280 (444 + 61 * C + 1)) + (f 280 5)) - (f 280 61)) (0 : Int32) (r_full_v f c C))), l)) rfl rfl (fl_bo rfl) rfl ?_
  refine fl_Tq.stp (pc' := 47) (lv' := [some (.inr (.inr (.inl (76, 277)))), some (.inl c), some (.inl ((f 280 5) / (1000 : Int32)))]) (st' := [.inr (.inr (.inl (76, 277)))]) (m' := (fl_row f 280 (upd (f 280) (444 + 61 * C + 1) (r_held_v (((f 280 (444 + 61 * C + 1)) + (f 280 5)) - (f 280 61)) (0 : Int32) (r_full_v f c C))), l)) rfl rfl (fl_bo rfl) rfl ?_
  refine fl_Tq.stp (pc' := 48) (lv' := [some (.inr (.inr (.inl (76, 277)))), some (.inl c), some (.inl ((f 280 5) / (1000 : Int32)))]) (st' := [.inl c, .inr (.inr (.inl (76, 277)))]) (m' := (fl_row f 280 (upd (f 280) (444 + 61 * C + 1) (r_held_v (((f 280 (444 + 61 * C + 1)) + (f 280 5)) - (f 280 61)) (0 : Int32) (r_full_v f c C))), l)) rfl rfl (fl_bo rfl) rfl ?_
  refine fl_Tq.cI (c := (3 : Int32)) rfl (by decide +kernel) (fl_bo rfl) ?_
  refine fl_Tq.stp (pc' := 50) (lv' := [some (.inr (.inr (.inl (76, 277)))), some (.inl c), some (.inl ((f 280 5) / (1000 : Int32)))]) (st' := [.inr (.inr (.inl (76, 277))), .inl (3 : Int32), .inl c, .inr (.inr (.inl (76, 277)))]) (m' := (fl_row f 280 (upd (f 280) (444 + 61 * C + 1) (r_held_v (((f 280 (444 + 61 * C + 1)) + (f 280 5)) - (f 280 61)) (0 : Int32) (r_full_v f c C))), l)) rfl rfl (fl_bo rfl) rfl ?_
  refine fl_Tq.stp (pc' := 51) (lv' := [some (.inr (.inr (.inl (76, 277)))), some (.inl c), some (.inl ((f 280 5) / (1000 : Int32)))]) (st' := [.inl c, .inr (.inr (.inl (76, 277))), .inl (3 : Int32), .inl c, .inr (.inr (.inl (76, 277)))]) (m' := (fl_row f 280 (upd (f 280) (444 + 61 * C + 1) (r_held_v (((f 280 (444 + 61 * C + 1)) + (f 280 5)) - (f 280 61)) (0 : Int32) (r_full_v f c C))), l)) rfl rfl (fl_bo rfl) rfl ?_
  refine fl_Tq.cI (c := (3 : Int32)) rfl (by decide +kernel) (fl_bo rfl) ?_
  refine fl_Tq.cal rfl rfl (fl_bo rfl) rfl ?_
  refine t2_get (C := C) (W := 3) (v := f 280 (444 + 61 * C + 3)) hc (by decide +kernel) hC (by decide) (by simp only [fl_row_self, upd_ne (by omega : 444 + 61 * C + 3 ≠ 444 + 61 * C + 1)]) ?_
  show fl_Tq _ 215 55 [some (.inr (.inr (.inl (76, 277)))), some (.inl c), some (.inl ((f 280 5) / (1000 : Int32)))] [.inl (f 280 (444 + 61 * C + 3)), .inl (3 : Int32), .inl c, .inr (.inr (.inl (76, 277)))] (fl_row f 280 (upd (f 280) (444 + 61 * C + 1) (r_held_v (((f 280 (444 + 61 * C + 1)) + (f 280 5)) - (f 280 61)) (0 : Int32) (r_full_v f c C))), l) _
  refine fl_Tq.stp (pc' := 56) (lv' := [some (.inr (.inr (.inl (76, 277)))), some (.inl c), some (.inl ((f 280 5) / (1000 : Int32)))]) (st' := [.inl ((f 280 5) / (1000 : Int32)), .inl (f 280 (444 + 61 * C + 3)), .inl (3 : Int32), .inl c, .inr (.inr (.inl (76, 277)))]) (m' := (fl_row f 280 (upd (f 280) (444 + 61 * C + 1) (r_held_v (((f 280 (444 + 61 * C + 1)) + (f 280 5)) - (f 280 61)) (0 : Int32) (r_full_v f c C))), l)) rfl rfl (fl_bo rfl) rfl ?_
  refine fl_Tq.stp (pc' := 57) (lv' := [some (.inr (.inr (.inl (76, 277)))), some (.inl c), some (.inl ((f 280 5) / (1000 : Int32)))]) (st' := [.inl ((f 280 5) / (1000 : Int32)), .inl ((f 280 5) / (1000 : Int32)), .inl (f 280 (444 + 61 * C + 3)), .inl (3 : Int32), .inl c, .inr (.inr (.inl (76, 277)))]) (m' := (fl_row f 280 (upd (f 280) (444 + 61 * C + 1) (r_held_v (((f 280 (444 + 61 * C + 1)) + (f 280 5)) - (f 280 61)) (0 : Int32) (r_full_v f c C))), l)) rfl rfl (fl_bo rfl) rfl ?_
  refine fl_Tq.stp (pc' := 58) (lv' := [some (.inr (.inr (.inl (76, 277)))), some (.inl c), some (.inl ((f 280 5) / (1000 : Int32)))]) (st' := [.inl (((f 280 5) / (1000 : Int32)) * ((f 280 5) / (1000 : Int32))), .inl (f 280 (444 + 61 * C + 3)), .inl (3 : Int32), .inl c, .inr (.inr (.inl (76, 277)))]) (m' := (fl_row f 280 (upd (f 280) (444 + 61 * C + 1) (r_held_v (((f 280 (444 + 61 * C + 1)) + (f 280 5)) - (f 280 61)) (0 : Int32) (r_full_v f c C))), l)) rfl rfl (fl_bo rfl) rfl ?_
  refine fl_Tq.stp (pc' := 59) (lv' := [some (.inr (.inr (.inl (76, 277)))), some (.inl c), some (.inl ((f 280 5) / (1000 : Int32)))]) (st' := [.inr (.inr (.inl (76, 277))), .inl (((f 280 5) / (1000 : Int32)) * ((f 280 5) / (1000 : Int32))), .inl (f 280 (444 + 61 * C + 3)), .inl (3 : Int32), .inl c, .inr (.inr (.inl (76, 277)))]) (m' := (fl_row f 280 (upd (f 280) (444 + 61 * C + 1) (r_held_v (((f 280 (444 + 61 * C + 1)) + (f 280 5)) - (f 280 61)) (0 : Int32) (r_full_v f c C))), l)) rfl rfl (fl_bo rfl) rfl ?_
  refine fl_Tq.stp (pc' := 60) (lv' := [some (.inr (.inr (.inl (76, 277)))), some (.inl c), some (.inl ((f 280 5) / (1000 : Int32)))]) (st' := [.inl c, .inr (.inr (.inl (76, 277))), .inl (((f 280 5) / (1000 : Int32)) * ((f 280 5) / (1000 : Int32))), .inl (f 280 (444 + 61 * C + 3)), .inl (3 : Int32), .inl c, .inr (.inr (.inl (76, 277)))]) (m' := (fl_row f 280 (upd (f 280) (444 + 61 * C + 1) (r_held_v (((f 280 (444 + 61 * C + 1)) + (f 280 5)) - (f 280 61)) (0 : Int32) (r_full_v f c C))), l)) rfl rfl (fl_bo rfl) rfl ?_
  refine fl_Tq.cI (c := (2 : Int32)) rfl (by decide +kernel) (fl_bo rfl) ?_
  refine fl_Tq.cal rfl rfl (fl_bo rfl) rfl ?_
  refine t2_get (C := C) (W := 2) (v := f 280 (444 + 61 * C + 2)) hc (by decide +kernel) hC (by decide) (by simp only [fl_row_self, upd_ne (by omega : 444 + 61 * C + 2 ≠ 444 + 61 * C + 1)]) ?_
  show fl_Tq _ 215 64 [some (.inr (.inr (.inl (76, 277)))), some (.inl c), some (.inl ((f 280 5) / (1000 : Int32)))] [.inl (f 280 (444 + 61 * C + 2)), .inl (((f 280 5) / (1000 : Int32)) * ((f 280 5) / (1000 : Int32))), .inl (f 280 (444 + 61 * C + 3)), .inl (3 : Int32), .inl c, .inr (.inr (.inl (76, 277)))] (fl_row f 280 (upd (f 280) (444 + 61 * C + 1) (r_held_v (((f 280 (444 + 61 * C + 1)) + (f 280 5)) - (f 280 61)) (0 : Int32) (r_full_v f c C))), l) _
  refine fl_Tq.stp (pc' := 65) (lv' := [some (.inr (.inr (.inl (76, 277)))), some (.inl c), some (.inl ((f 280 5) / (1000 : Int32)))]) (st' := [.inl ((((f 280 5) / (1000 : Int32)) * ((f 280 5) / (1000 : Int32))) * (f 280 (444 + 61 * C + 2))), .inl (f 280 (444 + 61 * C + 3)), .inl (3 : Int32), .inl c, .inr (.inr (.inl (76, 277)))]) (m' := (fl_row f 280 (upd (f 280) (444 + 61 * C + 1) (r_held_v (((f 280 (444 + 61 * C + 1)) + (f 280 5)) - (f 280 61)) (0 : Int32) (r_full_v f c C))), l)) rfl rfl (fl_bo rfl) rfl ?_
  refine fl_Tq.cS (c := (500 : Int32)) rfl (by decide +kernel) (fl_bo rfl) ?_
  refine fl_Tq.dv rfl (fl_bo rfl) (by decide +kernel) ?_
  refine fl_Tq.stp (pc' := 70) (lv' := [some (.inr (.inr (.inl (76, 277)))), some (.inl c), some (.inl ((f 280 5) / (1000 : Int32)))]) (st' := [.inl ((f 280 (444 + 61 * C + 3)) + (((((f 280 5) / (1000 : Int32)) * ((f 280 5) / (1000 : Int32))) * (f 280 (444 + 61 * C + 2))) / (500 : Int32))), .inl (3 : Int32), .inl c, .inr (.inr (.inl (76, 277)))]) (m' := (fl_row f 280 (upd (f 280) (444 + 61 * C + 1) (r_held_v (((f 280 (444 + 61 * C + 1)) + (f 280 5)) - (f 280 61)) (0 : Int32) (r_full_v f c C))), l)) rfl rfl (fl_bo rfl) rfl ?_
  refine fl_Tq.cal rfl rfl (fl_bo rfl) rfl ?_
  refine t2_let (C := C) (W := 3) (m' := (fl_row f 280 (upd (upd (f 280) (444 + 61 * C + 1) (r_held_v (((f 280 (444 + 61 * C + 1)) + (f 280 5)) - (f 280 61)) (0 : Int32) (r_full_v f c C))) (444 + 61 * C + 3) ((f 280 (444 + 61 * C + 3)) + (((((f 280 5) / (1000 : Int32)) * ((f 280 5) / (1000 : Int32))) * (f 280 (444 + 61 * C + 2))) / (500 : Int32)))), l)) hc (by decide +kernel) hC (by decide) (t2_upr) ?_
  show fl_Tq _ 215 73 [some (.inr (.inr (.inl (76, 277)))), some (.inl c), some (.inl ((f 280 5) / (1000 : Int32)))] [] (fl_row f 280 (upd (upd (f 280) (444 + 61 * C + 1) (r_held_v (((f 280 (444 + 61 * C + 1)) + (f 280 5)) - (f 280 61)) (0 : Int32) (r_full_v f c C))) (444 + 61 * C + 3) ((f 280 (444 + 61 * C + 3)) + (((((f 280 5) / (1000 : Int32)) * ((f 280 5) / (1000 : Int32))) * (f 280 (444 + 61 * C + 2))) / (500 : Int32)))), l) _
  refine fl_Tq.stp (pc' := 74) (lv' := [some (.inr (.inr (.inl (76, 277)))), some (.inl c), some (.inl ((f 280 5) / (1000 : Int32)))]) (st' := [.inr (.inr (.inl (76, 277)))]) (m' := (fl_row f 280 (upd (upd (f 280) (444 + 61 * C + 1) (r_held_v (((f 280 (444 + 61 * C + 1)) + (f 280 5)) - (f 280 61)) (0 : Int32) (r_full_v f c C))) (444 + 61 * C + 3) ((f 280 (444 + 61 * C + 3)) + (((((f 280 5) / (1000 : Int32)) * ((f 280 5) / (1000 : Int32))) * (f 280 (444 + 61 * C + 2))) / (500 : Int32)))), l)) rfl rfl (fl_bo rfl) rfl ?_
  refine fl_Tq.stp (pc' := 75) (lv' := [some (.inr (.inr (.inl (76, 277)))), some (.inl c), some (.inl ((f 280 5) / (1000 : Int32)))]) (st' := [.inl c, .inr (.inr (.inl (76, 277)))]) (m' := (fl_row f 280 (upd (upd (f 280) (444 + 61 * C + 1) (r_held_v (((f 280 (444 + 61 * C + 1)) + (f 280 5)) - (f 280 61)) (0 : Int32) (r_full_v f c C))) (444 + 61 * C + 3) ((f 280 (444 + 61 * C + 3)) + (((((f 280 5) / (1000 : Int32)) * ((f 280 5) / (1000 : Int32))) * (f 280 (444 + 61 * C + 2))) / (500 : Int32)))), l)) rfl rfl (fl_bo rfl) rfl ?_
  refine fl_Tq.cI (c := (3 : Int32)) rfl (by decide +kernel) (fl_bo rfl) ?_
  refine fl_Tq.stp (pc' := 77) (lv' := [some (.inr (.inr (.inl (76, 277)))), some (.inl c), some (.inl ((f 280 5) / (1000 : Int32)))]) (st' := [.inr (.inr (.inl (76, 277))), .inl (3 : Int32), .inl c, .inr (.inr (.inl (76, 277)))]) (m' := (fl_row f 280 (upd (upd (f 280) (444 + 61 * C + 1) (r_held_v (((f 280 (444 + 61 * C + 1)) + (f 280 5)) - (f 280 61)) (0 : Int32) (r_full_v f c C))) (444 + 61 * C + 3) ((f 280 (444 + 61 * C + 3)) + (((((f 280 5) / (1000 : Int32)) * ((f 280 5) / (1000 : Int32))) * (f 280 (444 + 61 * C + 2))) / (500 : Int32)))), l)) rfl rfl (fl_bo rfl) rfl ?_
  refine fl_Tq.stp (pc' := 78) (lv' := [some (.inr (.inr (.inl (76, 277)))), some (.inl c), some (.inl ((f 280 5) / (1000 : Int32)))]) (st' := [.inl c, .inr (.inr (.inl (76, 277))), .inl (3 : Int32), .inl c, .inr (.inr (.inl (76, 277)))]) (m' := (fl_row f 280 (upd (upd (f 280) (444 + 61 * C + 1) (r_held_v (((f 280 (444 + 61 * C + 1)) + (f 280 5)) - (f 280 61)) (0 : Int32) (r_full_v f c C))) (444 + 61 * C + 3) ((f 280 (444 + 61 * C + 3)) + (((((f 280 5) / (1000 : Int32)) * ((f 280 5) / (1000 : Int32))) * (f 280 (444 + 61 * C + 2))) / (500 : Int32)))), l)) rfl rfl (fl_bo rfl) rfl ?_
  refine fl_Tq.cI (c := (3 : Int32)) rfl (by decide +kernel) (fl_bo rfl) ?_
  refine fl_Tq.cal rfl rfl (fl_bo rfl) rfl ?_
  refine t2_get (C := C) (W := 3) (v := (f 280 (444 + 61 * C + 3)) + (((((f 280 5) / (1000 : Int32)) * ((f 280 5) / (1000 : Int32))) * (f 280 (444 + 61 * C + 2))) / (500 : Int32))) hc (by decide +kernel) hC (by decide) (by simp only [fl_row_self, upd_self]) ?_
  show fl_Tq _ 215 82 [some (.inr (.inr (.inl (76, 277)))), some (.inl c), some (.inl ((f 280 5) / (1000 : Int32)))] [.inl ((f 280 (444 + 61 * C + 3)) + (((((f 280 5) / (1000 : Int32)) * ((f 280 5) / (1000 : Int32))) * (f 280 (444 + 61 * C + 2))) / (500 : Int32))), .inl (3 : Int32), .inl c, .inr (.inr (.inl (76, 277)))] (fl_row f 280 (upd (upd (f 280) (444 + 61 * C + 1) (r_held_v (((f 280 (444 + 61 * C + 1)) + (f 280 5)) - (f 280 61)) (0 : Int32) (r_full_v f c C))) (444 + 61 * C + 3) ((f 280 (444 + 61 * C + 3)) + (((((f 280 5) / (1000 : Int32)) * ((f 280 5) / (1000 : Int32))) * (f 280 (444 + 61 * C + 2))) / (500 : Int32)))), l) _
  refine fl_Tq.stp (pc' := 83) (lv' := [some (.inr (.inr (.inl (76, 277)))), some (.inl c), some (.inl ((f 280 5) / (1000 : Int32)))]) (st' := [.inr (.inr (.inl (76, 277))), .inl ((f 280 (444 + 61 * C + 3)) + (((((f 280 5) / (1000 : Int32)) * ((f 280 5) / (1000 : Int32))) * (f 280 (444 + 61 * C + 2))) / (500 : Int32))), .inl (3 : Int32), .inl c, .inr (.inr (.inl (76, 277)))]) (m' := (fl_row f 280 (upd (upd (f 280) (444 + 61 * C + 1) (r_held_v (((f 280 (444 + 61 * C + 1)) + (f 280 5)) - (f 280 61)) (0 : Int32) (r_full_v f c C))) (444 + 61 * C + 3) ((f 280 (444 + 61 * C + 3)) + (((((f 280 5) / (1000 : Int32)) * ((f 280 5) / (1000 : Int32))) * (f 280 (444 + 61 * C + 2))) / (500 : Int32)))), l)) rfl rfl (fl_bo rfl) rfl ?_
  refine fl_Tq.cB (c := (6 : Int32)) rfl (by decide +kernel) (fl_bo rfl) ?_
  refine fl_Tq.cal rfl rfl (fl_bo rfl) rfl ?_
  refine t2_its (W := 6) (v := f 280 40) (by decide +kernel) (by decide) (by simp only [fl_row_self, upd_ne (by omega : 40 ≠ 444 + 61 * C + 3), upd_ne (by omega : 40 ≠ 444 + 61 * C + 1)]) ?_
  show fl_Tq _ 215 88 [some (.inr (.inr (.inl (76, 277)))), some (.inl c), some (.inl ((f 280 5) / (1000 : Int32)))] [.inl (f 280 40), .inl ((f 280 (444 + 61 * C + 3)) + (((((f 280 5) / (1000 : Int32)) * ((f 280 5) / (1000 : Int32))) * (f 280 (444 + 61 * C + 2))) / (500 : Int32))), .inl (3 : Int32), .inl c, .inr (.inr (.inl (76, 277)))] (fl_row f 280 (upd (upd (f 280) (444 + 61 * C + 1) (r_held_v (((f 280 (444 + 61 * C + 1)) + (f 280 5)) - (f 280 61)) (0 : Int32) (r_full_v f c C))) (444 + 61 * C + 3) ((f 280 (444 + 61 * C + 3)) + (((((f 280 5) / (1000 : Int32)) * ((f 280 5) / (1000 : Int32))) * (f 280 (444 + 61 * C + 2))) / (500 : Int32)))), l) _
  refine fl_Tq.stp (pc' := 89) (lv' := [some (.inr (.inr (.inl (76, 277)))), some (.inl c), some (.inl ((f 280 5) / (1000 : Int32)))]) (st' := [.inr (.inr (.inl (76, 277))), .inl (f 280 40), .inl ((f 280 (444 + 61 * C + 3)) + (((((f 280 5) / (1000 : Int32)) * ((f 280 5) / (1000 : Int32))) * (f 280 (444 + 61 * C + 2))) / (500 : Int32))), .inl (3 : Int32), .inl c, .inr (.inr (.inl (76, 277)))]) (m' := (fl_row f 280 (upd (upd (f 280) (444 + 61 * C + 1) (r_held_v (((f 280 (444 + 61 * C + 1)) + (f 280 5)) - (f 280 61)) (0 : Int32) (r_full_v f c C))) (444 + 61 * C + 3) ((f 280 (444 + 61 * C + 3)) + (((((f 280 5) / (1000 : Int32)) * ((f 280 5) / (1000 : Int32))) * (f 280 (444 + 61 * C + 2))) / (500 : Int32)))), l)) rfl rfl (fl_bo rfl) rfl ?_
  refine fl_Tq.stp (pc' := 90) (lv' := [some (.inr (.inr (.inl (76, 277)))), some (.inl c), some (.inl ((f 280 5) / (1000 : Int32)))]) (st' := [.inl c, .inr (.inr (.inl (76, 277))), .inl (f 280 40), .inl ((f 280 (444 + 61 * C + 3)) + (((((f 280 5) / (1000 : Int32)) * ((f 280 5) / (1000 : Int32))) * (f 280 (444 + 61 * C + 2))) / (500 : Int32))), .inl (3 : Int32), .inl c, .inr (.inr (.inl (76, 277)))]) (m' := (fl_row f 280 (upd (upd (f 280) (444 + 61 * C + 1) (r_held_v (((f 280 (444 + 61 * C + 1)) + (f 280 5)) - (f 280 61)) (0 : Int32) (r_full_v f c C))) (444 + 61 * C + 3) ((f 280 (444 + 61 * C + 3)) + (((((f 280 5) / (1000 : Int32)) * ((f 280 5) / (1000 : Int32))) * (f 280 (444 + 61 * C + 2))) / (500 : Int32)))), l)) rfl rfl (fl_bo rfl) rfl ?_
  refine fl_Tq.cI (c := (3 : Int32)) rfl (by decide +kernel) (fl_bo rfl) ?_
  refine fl_Tq.cal rfl rfl (fl_bo rfl) rfl ?_
  refine t2_get (C := C) (W := 3) (v := (f 280 (444 + 61 * C + 3)) + (((((f 280 5) / (1000 : Int32)) * ((f 280 5) / (1000 : Int32))) * (f 280 (444 + 61 * C + 2))) / (500 : Int32))) hc (by decide +kernel) hC (by decide) (by simp only [fl_row_self, upd_self]) ?_
  show fl_Tq _ 215 94 [some (.inr (.inr (.inl (76, 277)))), some (.inl c), some (.inl ((f 280 5) / (1000 : Int32)))] [.inl ((f 280 (444 + 61 * C + 3)) + (((((f 280 5) / (1000 : Int32)) * ((f 280 5) / (1000 : Int32))) * (f 280 (444 + 61 * C + 2))) / (500 : Int32))), .inl (f 280 40), .inl ((f 280 (444 + 61 * C + 3)) + (((((f 280 5) / (1000 : Int32)) * ((f 280 5) / (1000 : Int32))) * (f 280 (444 + 61 * C + 2))) / (500 : Int32))), .inl (3 : Int32), .inl c, .inr (.inr (.inl (76, 277)))] (fl_row f 280 (upd (upd (f 280) (444 + 61 * C + 1) (r_held_v (((f 280 (444 + 61 * C + 1)) + (f 280 5)) - (f 280 61)) (0 : Int32) (r_full_v f c C))) (444 + 61 * C + 3) ((f 280 (444 + 61 * C + 3)) + (((((f 280 5) / (1000 : Int32)) * ((f 280 5) / (1000 : Int32))) * (f 280 (444 + 61 * C + 2))) / (500 : Int32)))), l) _
  refine fl_Tq.stp (pc' := 95) (lv' := [some (.inr (.inr (.inl (76, 277)))), some (.inl c), some (.inl ((f 280 5) / (1000 : Int32)))]) (st' := [.inl ((f 280 40) - ((f 280 (444 + 61 * C + 3)) + (((((f 280 5) / (1000 : Int32)) * ((f 280 5) / (1000 : Int32))) * (f 280 (444 + 61 * C + 2))) / (500 : Int32)))), .inl ((f 280 (444 + 61 * C + 3)) + (((((f 280 5) / (1000 : Int32)) * ((f 280 5) / (1000 : Int32))) * (f 280 (444 + 61 * C + 2))) / (500 : Int32))), .inl (3 : Int32), .inl c, .inr (.inr (.inl (76, 277)))]) (m' := (fl_row f 280 (upd (upd (f 280) (444 + 61 * C + 1) (r_held_v (((f 280 (444 + 61 * C + 1)) + (f 280 5)) - (f 280 61)) (0 : Int32) (r_full_v f c C))) (444 + 61 * C + 3) ((f 280 (444 + 61 * C + 3)) + (((((f 280 5) / (1000 : Int32)) * ((f 280 5) / (1000 : Int32))) * (f 280 (444 + 61 * C + 2))) / (500 : Int32)))), l)) rfl rfl (fl_bo rfl) rfl ?_
  refine fl_Tq.cB (c := (32 : Int32)) rfl (by decide +kernel) (fl_bo rfl) ?_
  refine fl_Tq.dv rfl (fl_bo rfl) (by decide +kernel) ?_
  refine fl_Tq.stp (pc' := 99) (lv' := [some (.inr (.inr (.inl (76, 277)))), some (.inl c), some (.inl ((f 280 5) / (1000 : Int32)))]) (st' := [.inl (((f 280 (444 + 61 * C + 3)) + (((((f 280 5) / (1000 : Int32)) * ((f 280 5) / (1000 : Int32))) * (f 280 (444 + 61 * C + 2))) / (500 : Int32))) + (((f 280 40) - ((f 280 (444 + 61 * C + 3)) + (((((f 280 5) / (1000 : Int32)) * ((f 280 5) / (1000 : Int32))) * (f 280 (444 + 61 * C + 2))) / (500 : Int32)))) / (32 : Int32))), .inl (3 : Int32), .inl c, .inr (.inr (.inl (76, 277)))]) (m' := (fl_row f 280 (upd (upd (f 280) (444 + 61 * C + 1) (r_held_v (((f 280 (444 + 61 * C + 1)) + (f 280 5)) - (f 280 61)) (0 : Int32) (r_full_v f c C))) (444 + 61 * C + 3) ((f 280 (444 + 61 * C + 3)) + (((((f 280 5) / (1000 : Int32)) * ((f 280 5) / (1000 : Int32))) * (f 280 (444 + 61 * C + 2))) / (500 : Int32)))), l)) rfl rfl (fl_bo rfl) rfl ?_
  refine fl_Tq.cal rfl rfl (fl_bo rfl) rfl ?_
  refine t2_let (C := C) (W := 3) (m' := (fl_row f 280 (upd (upd (f 280) (444 + 61 * C + 1) (r_held_v (((f 280 (444 + 61 * C + 1)) + (f 280 5)) - (f 280 61)) (0 : Int32) (r_full_v f c C))) (444 + 61 * C + 3) (((f 280 (444 + 61 * C + 3)) + (((((f 280 5) / (1000 : Int32)) * ((f 280 5) / (1000 : Int32))) * (f 280 (444 + 61 * C + 2))) / (500 : Int32))) + (((f 280 40) - ((f 280 (444 + 61 * C + 3)) + (((((f 280 5) / (1000 : Int32)) * ((f 280 5) / (1000 : Int32))) * (f 280 (444 + 61 * C + 2))) / (500 : Int32)))) / (32 : Int32)))), l)) hc (by decide +kernel) hC (by decide) (t2_upo) ?_
  show fl_Tq _ 215 102 [some (.inr (.inr (.inl (76, 277)))), some (.inl c), some (.inl ((f 280 5) / (1000 : Int32)))] [] (fl_row f 280 (upd (upd (f 280) (444 + 61 * C + 1) (r_held_v (((f 280 (444 + 61 * C + 1)) + (f 280 5)) - (f 280 61)) (0 : Int32) (r_full_v f c C))) (444 + 61 * C + 3) (((f 280 (444 + 61 * C + 3)) + (((((f 280 5) / (1000 : Int32)) * ((f 280 5) / (1000 : Int32))) * (f 280 (444 + 61 * C + 2))) / (500 : Int32))) + (((f 280 40) - ((f 280 (444 + 61 * C + 3)) + (((((f 280 5) / (1000 : Int32)) * ((f 280 5) / (1000 : Int32))) * (f 280 (444 + 61 * C + 2))) / (500 : Int32)))) / (32 : Int32)))), l) _
  exact fl_Tq.ret rfl rfl rfl k

end
