/-! ===== floats and doubles: never a NaN ===== -/
section FTF
variable {P : am_Pg} {mi pc pc' : Nat} {ins : Instr} {lv lv' : fl_L} {st st' r : List fl_V} {m : fl_M} {Q : Option fl_V → fl_M → Prop}
theorem fl_Tq.gen (hc : am_code P mi pc = some ins) (hcl : am_cl P mi ins = none) (hrt : am_rt P mi ins (st.map fl_c) = none) (hst : ∀ la : am_L, fl_LR lv la → ∃ la', am_st P mi ins pc la (st.map fl_c) (fl_H m) = some (pc', la', st'.map fl_c, fl_H m) ∧ fl_LR lv' la') (k : fl_Tq P mi pc' lv' st' m Q) : fl_Tq P mi pc lv st m Q := by
  intro la hl
  obtain ⟨la', h1, h2⟩ := hst la hl
  exact am_To.stp hc hcl hrt h1 (k la' h2)
theorem fl_Tq.dld {i w : Nat} (hc : am_code P mi pc = some ins) (hcl : am_cl P mi ins = none) (hrt : am_rt P mi ins (st.map fl_c) = none) {n : Nat} (hst : ∀ (la : am_L) (s : List Value) (M : am_M), am_st P mi ins pc la s M = am_pu n pc la s M (am_ld w (am_lk la i))) {v : fl_V} (hv : fl_ld w lv[i]? = some v) (k : fl_Tq P mi (pc + n) lv (v :: st) m Q) : fl_Tq P mi pc lv st m Q := by
  refine fl_Tq.gen hc hcl hrt (fun la hl => ⟨la, ?_, hl⟩) k
  rw [hst, fl_ld_c hl hv]
  rfl
theorem fl_Tq.dso {i w n : Nat} {v : fl_V} (hc : am_code P mi pc = some ins) (hcl : am_cl P mi ins = none) (hrt : am_rt P mi ins ((v :: r).map fl_c) = none) (hst : ∀ (la : am_L) (s : List Value) (M : am_M), am_st P mi ins pc la s M = am_so w n pc i (am_mxl P mi) la s M) (hv : fl_so w n pc i (am_mxl P mi) lv (v :: r) m = some (pc', lv', r, m)) (k : fl_Tq P mi pc' lv' r m Q) : fl_Tq P mi pc lv (v :: r) m Q := by
  refine fl_Tq.gen hc hcl hrt (fun la hl => ?_) k
  obtain ⟨la', h1, h2⟩ := fl_so_c hl hv
  exact ⟨la', by rw [hst]; exact h1, h2⟩
theorem fl_Tq.psh {v : fl_V} {n : Nat} (hc : am_code P mi pc = some ins) (hcl : am_cl P mi ins = none) (hrt : am_rt P mi ins (st.map fl_c) = none) (hst : ∀ (la : am_L) (s : List Value) (M : am_M), am_st P mi ins pc la s M = some (pc + n, la, fl_c v :: s, M)) (k : fl_Tq P mi (pc + n) lv (v :: st) m Q) : fl_Tq P mi pc lv st m Q :=
  fl_Tq.gen (st' := v :: st) hc hcl hrt (fun la hl => ⟨la, hst la (st.map fl_c) (fl_H m), hl⟩) k
theorem fl_Tq.un {v w : fl_V} (hc : am_code P mi pc = some ins) (hcl : am_cl P mi ins = none) (hrt : am_rt P mi ins ((v :: r).map fl_c) = none) (hst : ∀ (la : am_L) (s : List Value) (M : am_M), am_st P mi ins pc la (fl_c v :: s) M = some (pc + 1, la, fl_c w :: s, M)) (k : fl_Tq P mi (pc + 1) lv (w :: r) m Q) : fl_Tq P mi pc lv (v :: r) m Q :=
  fl_Tq.gen (st' := w :: r) hc hcl hrt (fun la hl => ⟨la, hst la (r.map fl_c) (fl_H m), hl⟩) k
theorem fl_Tq.bi {v w u : fl_V} (hc : am_code P mi pc = some ins) (hcl : am_cl P mi ins = none) (hrt : am_rt P mi ins ((v :: w :: r).map fl_c) = none) (hst : ∀ (la : am_L) (s : List Value) (M : am_M), am_st P mi ins pc la (fl_c v :: fl_c w :: s) M = some (pc + 1, la, fl_c u :: s, M)) (k : fl_Tq P mi (pc + 1) lv (u :: r) m Q) : fl_Tq P mi pc lv (v :: w :: r) m Q :=
  fl_Tq.gen (st' := u :: r) hc hcl hrt (fun la hl => ⟨la, hst la (r.map fl_c) (fl_H m), hl⟩) k
theorem fl_fD {g : UInt64 → UInt64 → UInt64} {a b : UInt64} (h : vf_n64 (g a b)) : am_fD g (.double a) (.double b) = some (.double (g a b)) := if_pos h
theorem fl_fF {g : UInt32 → UInt32 → UInt32} {a b : UInt32} (h : vf_n32 (g a b)) : am_fF g (.float a) (.float b) = some (.float (g a b)) := if_pos h
theorem fl_dbin {g : UInt64 → UInt64 → UInt64} {a b : UInt64} (hst : ∀ (la : am_L) (s : List Value) (M : am_M), am_st P mi ins pc la s M = am_2 pc la s M (am_fD g)) (h : vf_n64 (g a b)) (la : am_L) (s : List Value) (M : am_M) : am_st P mi ins pc la (.double b :: .double a :: s) M = some (pc + 1, la, .double (g a b) :: s, M) := by
  rw [hst]
  unfold am_2
  dsimp only
  rw [fl_fD h]
theorem fl_fbin {g : UInt32 → UInt32 → UInt32} {a b : UInt32} (hst : ∀ (la : am_L) (s : List Value) (M : am_M), am_st P mi ins pc la s M = am_2 pc la s M (am_fF g)) (h : vf_n32 (g a b)) (la : am_L) (s : List Value) (M : am_M) : am_st P mi ins pc la (.float b :: .float a :: s) M = some (pc + 1, la, .float (g a b) :: s, M) := by
  rw [hst]
  unfold am_2
  dsimp only
  rw [fl_fF h]
end FTF
abbrev fl_d (x : UInt64) : fl_V := .inr (.inr (.inr (.inr (.inr x))))
abbrev fl_f (x : UInt32) : fl_V := .inr (.inr (.inr (.inr (.inl x))))
abbrev fl_j (x : Int64) : fl_V := .inr (.inl x)
section ATFP
variable {L : Nat} {xs : Nat → Int32} {m : fl_M} {Q : Option fl_V → fl_M → Prop}
theorem at_326 {b : UInt64} (k : ∀ v : Int32, v = 0 ∨ v = 1 → Q (some (.inl v)) m) : fl_Tq (pw_P L xs) 326 0 (fl_args (am_mxl (pw_P L xs) 326) [fl_d b]) [] m Q := by
  refine fl_Tq.dld (i := 0) (w := 3) (n := 1) (v := fl_d b) rfl rfl rfl (fun _ _ _ => rfl) rfl ?_
  refine fl_Tq.dld (i := 0) (w := 3) (n := 1) (v := fl_d b) rfl rfl rfl (fun _ _ _ => rfl) rfl ?_
  refine fl_Tq.bi (u := .inl (Op.cmpValue (FP.dcmp b b) .l)) rfl rfl rfl (fun _ _ _ => rfl) ?_
  cases hb : am_c1 .eq (Op.cmpValue (FP.dcmp b b) .l) with
  | true =>
    refine fl_Tq.zt rfl (fl_bo rfl) hb rfl ?_
    refine fl_Tq.stp rfl rfl (fl_bo rfl) rfl ?_
    exact fl_Tq.ret rfl rfl rfl (k _ (Or.inl rfl))
  | false =>
    refine fl_Tq.zf rfl (fl_bo rfl) hb rfl ?_
    refine fl_Tq.stp rfl rfl (fl_bo rfl) rfl ?_
    refine fl_Tq.stp rfl rfl (fl_bo rfl) rfl ?_
    exact fl_Tq.ret rfl rfl rfl (k _ (Or.inr rfl))
theorem at_327 {b : UInt64} (k : ∀ v : Int64, Q (some (fl_j v)) m) : fl_Tq (pw_P L xs) 327 0 (fl_args (am_mxl (pw_P L xs) 327) [fl_d b]) [] m Q := by
  refine fl_Tq.dld (i := 0) (w := 3) (n := 1) (v := fl_d b) rfl rfl rfl (fun _ _ _ => rfl) rfl ?_
  refine fl_Tq.cal rfl rfl (fl_bo rfl) rfl ?_
  refine at_326 (fun v hv => ?_)
  cases hb : am_c1 .ne v with
  | true =>
    refine fl_Tq.zt rfl (fl_bo rfl) hb rfl ?_
    refine fl_Tq.stp rfl rfl (fl_bo rfl) rfl ?_
    exact fl_Tq.ret rfl rfl rfl (k _)
  | false =>
    refine fl_Tq.zf rfl (fl_bo rfl) hb rfl ?_
    refine fl_Tq.dld (i := 0) (w := 3) (n := 1) (v := fl_d b) rfl rfl rfl (fun _ _ _ => rfl) rfl ?_
    refine fl_Tq.gen (st' := [fl_j b.toInt64]) rfl rfl rfl (fun la hl => ⟨la, rfl, hl⟩) ?_
    exact fl_Tq.ret rfl rfl rfl (k _)
theorem at_328 {b : UInt32} (k : ∀ v : Int32, v = 0 ∨ v = 1 → Q (some (.inl v)) m) : fl_Tq (pw_P L xs) 328 0 (fl_args (am_mxl (pw_P L xs) 328) [fl_f b]) [] m Q := by
  refine fl_Tq.dld (i := 0) (w := 2) (n := 1) (v := fl_f b) rfl rfl rfl (fun _ _ _ => rfl) rfl ?_
  refine fl_Tq.dld (i := 0) (w := 2) (n := 1) (v := fl_f b) rfl rfl rfl (fun _ _ _ => rfl) rfl ?_
  refine fl_Tq.bi (u := .inl (Op.cmpValue (FP.fcmp b b) .l)) rfl rfl rfl (fun _ _ _ => rfl) ?_
  cases hb : am_c1 .eq (Op.cmpValue (FP.fcmp b b) .l) with
  | true =>
    refine fl_Tq.zt rfl (fl_bo rfl) hb rfl ?_
    refine fl_Tq.stp rfl rfl (fl_bo rfl) rfl ?_
    exact fl_Tq.ret rfl rfl rfl (k _ (Or.inl rfl))
  | false =>
    refine fl_Tq.zf rfl (fl_bo rfl) hb rfl ?_
    refine fl_Tq.stp rfl rfl (fl_bo rfl) rfl ?_
    refine fl_Tq.stp rfl rfl (fl_bo rfl) rfl ?_
    exact fl_Tq.ret rfl rfl rfl (k _ (Or.inr rfl))
theorem at_329 {b : UInt32} (k : ∀ v : Int32, Q (some (.inl v)) m) : fl_Tq (pw_P L xs) 329 0 (fl_args (am_mxl (pw_P L xs) 329) [fl_f b]) [] m Q := by
  refine fl_Tq.dld (i := 0) (w := 2) (n := 1) (v := fl_f b) rfl rfl rfl (fun _ _ _ => rfl) rfl ?_
  refine fl_Tq.cal rfl rfl (fl_bo rfl) rfl ?_
  refine at_328 (fun v hv => ?_)
  cases hb : am_c1 .ne v with
  | true =>
    refine fl_Tq.zt rfl (fl_bo rfl) hb rfl ?_
    refine fl_Tq.stp rfl rfl (fl_bo rfl) rfl ?_
    exact fl_Tq.ret rfl rfl rfl (k _)
  | false =>
    refine fl_Tq.zf rfl (fl_bo rfl) hb rfl ?_
    refine fl_Tq.dld (i := 0) (w := 2) (n := 1) (v := fl_f b) rfl rfl rfl (fun _ _ _ => rfl) rfl ?_
    refine fl_Tq.gen (st' := [.inl b.toInt32]) rfl rfl rfl (fun la hl => ⟨la, rfl, hl⟩) ?_
    exact fl_Tq.ret rfl rfl rfl (k _)
/-- the class's own bits of a double -/
theorem at_181 {b : UInt64} (hb0 : vf_n64 b) (k : ∀ v : Int64, Q (some (fl_j v)) m) : fl_Tq (pw_P L xs) 181 0 (fl_args (am_mxl (pw_P L xs) 181) [fl_d b]) [] m Q := by
  have tail : ∀ (x : UInt64) (e i : Int32), vf_n64 x → fl_Tq (pw_P L xs) 181 43 [some (fl_d b), none, some (.inl e), some (fl_d x), none, some (.inl i), none] [] m Q := by
    intro x e i hx
    refine fl_Tq.dld (i := 3) (w := 3) (n := 1) (v := fl_d x) rfl rfl rfl (fun _ _ _ => rfl) rfl ?_
    refine fl_Tq.psh (n := 1) (v := fl_d 0x3ff0000000000000) rfl rfl rfl (fun _ _ _ => rfl) ?_
    have n1 : vf_n64 (FP.dsub x 0x3ff0000000000000) := fp_sub64 hx (by decide) (by decide)
    refine fl_Tq.bi (u := fl_d (FP.dsub x 0x3ff0000000000000)) rfl rfl rfl (fl_dbin (fun _ _ _ => rfl) n1) ?_
    refine fl_Tq.psh (n := 3) (v := fl_d 0x4330000000000000) rfl rfl rfl (fun _ _ _ => rfl) ?_
    have n2 : vf_n64 (FP.dmul (FP.dsub x 0x3ff0000000000000) 0x4330000000000000) := fp_mul64 n1 (by decide) (by decide)
    refine fl_Tq.bi (u := fl_d (FP.dmul (FP.dsub x 0x3ff0000000000000) 0x4330000000000000)) rfl rfl rfl (fl_dbin (fun _ _ _ => rfl) n2) ?_
    refine fl_Tq.un (w := fl_j (FP.d2l (FP.dmul (FP.dsub x 0x3ff0000000000000) 0x4330000000000000))) rfl rfl rfl (fun _ _ _ => rfl) ?_
    refine fl_Tq.stp rfl rfl (fl_bo rfl) rfl ?_
    refine fl_Tq.stp rfl rfl (fl_bo rfl) rfl ?_
    refine fl_Tq.stp rfl rfl (fl_bo rfl) rfl ?_
    refine fl_Tq.stp rfl rfl (fl_bo rfl) rfl ?_
    refine fl_Tq.stp rfl rfl (fl_bo rfl) rfl ?_
    refine fl_Tq.stp rfl rfl (fl_bo rfl) rfl ?_
    refine fl_Tq.stp rfl rfl (fl_bo rfl) rfl ?_
    refine fl_Tq.stp rfl rfl (fl_bo rfl) rfl ?_
    refine fl_Tq.stp rfl rfl (fl_bo rfl) rfl ?_
    exact fl_Tq.ret rfl rfl rfl (k _)
  refine fl_Tq.dld (i := 0) (w := 3) (n := 1) (v := fl_d b) rfl rfl rfl (fun _ _ _ => rfl) rfl ?_
  refine fl_Tq.psh (n := 1) (v := fl_d 0) rfl rfl rfl (fun _ _ _ => rfl) ?_
  refine fl_Tq.bi (u := .inl (Op.cmpValue (FP.dcmp b 0) .g)) rfl rfl rfl (fun _ _ _ => rfl) ?_
  cases hb : am_c1 .gt (Op.cmpValue (FP.dcmp b 0) .g) with
  | false =>
    refine fl_Tq.zf rfl (fl_bo rfl) hb rfl ?_
    refine fl_Tq.stp rfl rfl (fl_bo rfl) rfl ?_
    exact fl_Tq.ret rfl rfl rfl (k _)
  | true =>
    refine fl_Tq.zt rfl (fl_bo rfl) hb rfl ?_
    refine fl_Tq.stp rfl rfl (fl_bo rfl) rfl ?_
    refine fl_Tq.stp rfl rfl (fl_bo rfl) rfl ?_
    refine fl_Tq.dld (i := 0) (w := 3) (n := 1) (v := fl_d b) rfl rfl rfl (fun _ _ _ => rfl) rfl ?_
    refine fl_Tq.dso (i := 3) (w := 3) (n := 1) rfl rfl rfl (fun _ _ _ => rfl) rfl ?_
    refine fl_Tq.stp rfl rfl (fl_bo rfl) rfl ?_
    refine fl_Tq.stp rfl rfl (fl_bo rfl) rfl ?_
    have loop : ∀ (d n : Nat) (x : UInt64) (e : Int32), n + d = 64 → vf_n64 x → fl_Tq (pw_P L xs) 181 15 [some (fl_d b), none, some (.inl e), some (fl_d x), none, some (.inl (Int32.ofNat n)), none] [] m Q := by
      intro d
      induction d with
      | zero =>
        intro n x e hn hx
        have hn : n = 64 := by omega
        subst hn
        refine fl_Tq.stp rfl rfl (fl_bo rfl) rfl ?_
        refine fl_Tq.stp rfl rfl (fl_bo rfl) rfl ?_
        refine fl_Tq.jt rfl (fl_bo rfl) (by decide +kernel) rfl ?_
        exact tail x e _ hx
      | succ d ih =>
        intro n x e hn hx
        have en := at_ofN (k := n) (by omega)
        refine fl_Tq.stp rfl rfl (fl_bo rfl) rfl ?_
        refine fl_Tq.stp rfl rfl (fl_bo rfl) rfl ?_
        refine fl_Tq.jf rfl (fl_bo rfl) ?_ rfl ?_
        · rw [at_c2, en]
          exact decide_eq_false (by show ¬ (0 ≤ (n : Int) - (64 : Int)); omega)
        refine fl_Tq.dld (i := 3) (w := 3) (n := 1) (v := fl_d x) rfl rfl rfl (fun _ _ _ => rfl) rfl ?_
        refine fl_Tq.psh (n := 1) (v := fl_d 0x3ff0000000000000) rfl rfl rfl (fun _ _ _ => rfl) ?_
        refine fl_Tq.bi (u := .inl (Op.cmpValue (FP.dcmp x 0x3ff0000000000000) .g)) rfl rfl rfl (fun _ _ _ => rfl) ?_
        cases hc : am_c1 .ge (Op.cmpValue (FP.dcmp x 0x3ff0000000000000) .g) with
        | true =>
          refine fl_Tq.zt rfl (fl_bo rfl) hc rfl ?_
          exact tail x e _ hx
        | false =>
          refine fl_Tq.zf rfl (fl_bo rfl) hc rfl ?_
          refine fl_Tq.dld (i := 3) (w := 3) (n := 1) (v := fl_d x) rfl rfl rfl (fun _ _ _ => rfl) rfl ?_
          refine fl_Tq.psh (n := 3) (v := fl_d 0x4000000000000000) rfl rfl rfl (fun _ _ _ => rfl) ?_
          have n2 : vf_n64 (FP.dmul x 0x4000000000000000) := fp_mul64 hx (by decide) (by decide)
          refine fl_Tq.bi (u := fl_d (FP.dmul x 0x4000000000000000)) rfl rfl rfl (fl_dbin (fun _ _ _ => rfl) n2) ?_
          refine fl_Tq.dso (i := 3) (w := 3) (n := 1) rfl rfl rfl (fun _ _ _ => rfl) rfl ?_
          refine fl_Tq.stp rfl rfl (fl_bo rfl) rfl ?_
          refine fl_Tq.stp rfl rfl (fl_bo rfl) rfl ?_
          refine fl_Tq.stp rfl rfl (fl_bo rfl) rfl ?_
          have := ih (n + 1) (FP.dmul x 0x4000000000000000) (e + Int32.ofInt (-1)) (by omega) n2
          rw [← at_inc (by omega)] at this
          exact this
    exact loop 64 0 b (Int32.ofInt 0) (by omega) hb0
end ATFP
