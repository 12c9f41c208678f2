theorem t2_kc0 {h i : Nat} (hi : i < 16) : fl_ok h (.inr (.inr (.inl (18, 18 + 4 * i)))) := by
  refine fl_okp ?_ (by omega)
  have H : (List.range 16).all (fun i => Nat.beq (fk_K (18 + 4 * i)) 18) = true := by decide +kernel
  exact Nat.eq_of_beq_eq_true (List.all_eq_true.mp H i (List.mem_range.mpr hi))
theorem t2_kt0 {h i : Nat} (hi : i < 16) : fl_ok h (.inr (.inr (.inl (19, 19 + 4 * i)))) := by
  refine fl_okp ?_ (by omega)
  have H : (List.range 16).all (fun i => Nat.beq (fk_K (19 + 4 * i)) 19) = true := by decide +kernel
  exact Nat.eq_of_beq_eq_true (List.all_eq_true.mp H i (List.mem_range.mpr hi))
theorem t2_ka0 {h i : Nat} (hi : i < 16) : fl_ok h (.inr (.inr (.inl (20, 20 + 4 * i)))) := by
  refine fl_okp ?_ (by omega)
  have H : (List.range 16).all (fun i => Nat.beq (fk_K (20 + 4 * i)) 20) = true := by decide +kernel
  exact Nat.eq_of_beq_eq_true (List.all_eq_true.mp H i (List.mem_range.mpr hi))
theorem t2_ky0 {h i : Nat} (hi : i < 16) : fl_ok h (.inr (.inr (.inl (21, 21 + 4 * i)))) := by
  refine fl_okp ?_ (by omega)
  have H : (List.range 16).all (fun i => Nat.beq (fk_K (21 + 4 * i)) 21) = true := by decide +kernel
  exact Nat.eq_of_beq_eq_true (List.all_eq_true.mp H i (List.mem_range.mpr hi))
theorem t2_kc2 {h i : Nat} (hi : i < 16) : fl_ok h (.inr (.inr (.inl (66, 198 + 4 * i)))) := by
  refine fl_okp ?_ (by omega)
  have H : (List.range 16).all (fun i => Nat.beq (fk_K (198 + 4 * i)) 66) = true := by decide +kernel
  exact Nat.eq_of_beq_eq_true (List.all_eq_true.mp H i (List.mem_range.mpr hi))
theorem t2_kt2 {h i : Nat} (hi : i < 16) : fl_ok h (.inr (.inr (.inl (67, 199 + 4 * i)))) := by
  refine fl_okp ?_ (by omega)
  have H : (List.range 16).all (fun i => Nat.beq (fk_K (199 + 4 * i)) 67) = true := by decide +kernel
  exact Nat.eq_of_beq_eq_true (List.all_eq_true.mp H i (List.mem_range.mpr hi))
theorem t2_ka2 {h i : Nat} (hi : i < 16) : fl_ok h (.inr (.inr (.inl (68, 200 + 4 * i)))) := by
  refine fl_okp ?_ (by omega)
  have H : (List.range 16).all (fun i => Nat.beq (fk_K (200 + 4 * i)) 68) = true := by decide +kernel
  exact Nat.eq_of_beq_eq_true (List.all_eq_true.mp H i (List.mem_range.mpr hi))
theorem t2_ky2 {h i : Nat} (hi : i < 16) : fl_ok h (.inr (.inr (.inl (69, 201 + 4 * i)))) := by
  refine fl_okp ?_ (by omega)
  have H : (List.range 16).all (fun i => Nat.beq (fk_K (201 + 4 * i)) 69) = true := by decide +kernel
  exact Nat.eq_of_beq_eq_true (List.all_eq_true.mp H i (List.mem_range.mpr hi))
theorem t2_nz {x : Int32} (h : x.toInt ≠ 0) : x ≠ 0 := fun e => h (by rw [e]; rfl)
theorem t2_nzp {x : Int32} (h : 0 < x.toInt) : x ≠ 0 := t2_nz (by omega)
theorem t2_nz64 {x : Int32} (h : x.toInt ≠ 0) : x.toInt64 ≠ 0 := fun e => h (by
  have h2 := congrArg Int64.toInt e
  rw [Int32.toInt_toInt64] at h2
  exact h2)
section T2R
variable {L : Nat} {xs : Nat → Int32} {f : t2_F} {l : t2_L} {Q : Option fl_V → fl_M → Prop}
theorem t2_its {W : Nat} {wi v : Int32} (hw : wi.toInt = W) (hw2 : W < 30) (hv : f 280 (34 + W) = v) (k : Q (some (.inl v)) (f, l)) : fl_Tq (pw_P L xs) 191 0 (fl_args (am_mxl (pw_P L xs) 191) [at_this, .inl wi]) [] (f, l) Q := by
  subst hv
  exact at_its (m := (f, l)) hw hw2 k
theorem t2_get {C W : Nat} {ci wi v : Int32} (hc : ci.toInt = C) (hw : wi.toInt = W) (hc2 : C < 16) (hw2 : W < 61) (hv : f 280 (444 + 61 * C + W) = v) (k : Q (some (.inl v)) (f, l)) : fl_Tq (pw_P L xs) 193 0 (fl_args (am_mxl (pw_P L xs) 193) [at_this, .inl ci, .inl wi]) [] (f, l) Q := by
  subst hv
  exact at_get (m := (f, l)) hc hw hc2 hw2 k
theorem t2_let {C W : Nat} {ci wi x : Int32} {m' : fl_M} (hc : ci.toInt = C) (hw : wi.toInt = W) (hc2 : C < 16) (hw2 : W < 61) (hm : ((fl_up f 280 (444 + 61 * C + W) x, l) : fl_M) = m') (k : Q none m') : fl_Tq (pw_P L xs) 194 0 (fl_args (am_mxl (pw_P L xs) 194) [at_this, .inl ci, .inl wi, .inl x]) [] (f, l) Q := by
  subst hm
  exact at_let (m := (f, l)) hc hw hc2 hw2 (fun m' e => by rw [e]; exact k)
end T2R
