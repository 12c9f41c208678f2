/-! ===== the bits of a float; fullness, off ===== -/
section ATF2
variable {L : Nat} {xs : Nat → Int32} {m : fl_M} {Q : Option fl_V → fl_M → Prop}
theorem at_182 {b : UInt32} (hb0 : vf_n32 b) (k : ∀ v : Int32, Q (some (.inl v)) m) : fl_Tq (pw_P L xs) 182 0 (fl_args (am_mxl (pw_P L xs) 182) [fl_f b]) [] m Q := by
  have tail : ∀ (x : UInt32) (e i : Int32), vf_n32 x → fl_Tq (pw_P L xs) 182 66 [some (fl_f b), some (.inl e), some (fl_f x), some (.inl i)] [] m Q := by
    intro x e i hx
    refine fl_Tq.dld (i := 2) (w := 2) (n := 1) (v := fl_f x) rfl rfl rfl (fun _ _ _ => rfl) rfl ?_
    refine fl_Tq.psh (n := 1) (v := fl_f 0x3f800000) rfl rfl rfl (fun _ _ _ => rfl) ?_
    have n1 : vf_n32 (FP.fsub x 0x3f800000) := fp_sub32 hx (by decide) (by decide)
    refine fl_Tq.bi (u := fl_f (FP.fsub x 0x3f800000)) rfl rfl rfl (fl_fbin (fun _ _ _ => rfl) n1) ?_
    refine fl_Tq.psh (n := 3) (v := fl_f 0x4b000000) rfl rfl rfl (fun _ _ _ => rfl) ?_
    have n2 : vf_n32 (FP.fmul (FP.fsub x 0x3f800000) 0x4b000000) := fp_mul32 n1 (by decide) (by decide)
    refine fl_Tq.bi (u := fl_f (FP.fmul (FP.fsub x 0x3f800000) 0x4b000000)) rfl rfl rfl (fl_fbin (fun _ _ _ => rfl) n2) ?_
    refine fl_Tq.un (w := .inl (FP.f2i (FP.fmul (FP.fsub x 0x3f800000) 0x4b000000))) rfl rfl rfl (fun _ _ _ => rfl) ?_
    refine fl_Tq.stp rfl rfl (fl_bo rfl) rfl ?_
    refine fl_Tq.stp rfl rfl (fl_bo rfl) rfl ?_
    refine fl_Tq.stp rfl rfl (fl_bo rfl) rfl ?_
    refine fl_Tq.stp rfl rfl (fl_bo rfl) rfl ?_
    refine fl_Tq.stp rfl rfl (fl_bo rfl) rfl ?_
    refine fl_Tq.stp rfl rfl (fl_bo rfl) rfl ?_
    refine fl_Tq.stp rfl rfl (fl_bo rfl) rfl ?_
    refine fl_Tq.stp rfl rfl (fl_bo rfl) rfl ?_
    exact fl_Tq.ret rfl rfl rfl (k _)
  have down : ∀ (d n : Nat) (x : UInt32) (e : Int32), n + d = 32 → vf_n32 x → fl_Tq (pw_P L xs) 182 41 [some (fl_f b), some (.inl e), some (fl_f x), some (.inl (Int32.ofNat n))] [] m Q := by
    intro d
    induction d with
    | zero =>
      intro n x e hn hx
      have hn : n = 32 := by omega
      subst hn
      refine fl_Tq.stp rfl rfl (fl_bo rfl) rfl ?_
      refine fl_Tq.stp rfl rfl (fl_bo rfl) rfl ?_
      refine fl_Tq.jt rfl (fl_bo rfl) (by decide +kernel) rfl ?_
      exact tail x e _ hx
    | succ d ih =>
      intro n x e hn hx
      have en := at_ofN (k := n) (by omega)
      refine fl_Tq.stp rfl rfl (fl_bo rfl) rfl ?_
      refine fl_Tq.stp rfl rfl (fl_bo rfl) rfl ?_
      refine fl_Tq.jf rfl (fl_bo rfl) ?_ rfl ?_
      · rw [at_c2, en]
        exact decide_eq_false (by show ¬ (0 ≤ (n : Int) - (32 : Int)); omega)
      refine fl_Tq.dld (i := 2) (w := 2) (n := 1) (v := fl_f x) rfl rfl rfl (fun _ _ _ => rfl) rfl ?_
      refine fl_Tq.psh (n := 1) (v := fl_f 0x40000000) rfl rfl rfl (fun _ _ _ => rfl) ?_
      refine fl_Tq.bi (u := .inl (Op.cmpValue (FP.fcmp x 0x40000000) .l)) rfl rfl rfl (fun _ _ _ => rfl) ?_
      cases hc : am_c1 .lt (Op.cmpValue (FP.fcmp x 0x40000000) .l) with
      | true =>
        refine fl_Tq.zt rfl (fl_bo rfl) hc rfl ?_
        exact tail x e _ hx
      | false =>
        refine fl_Tq.zf rfl (fl_bo rfl) hc rfl ?_
        refine fl_Tq.dld (i := 2) (w := 2) (n := 1) (v := fl_f x) rfl rfl rfl (fun _ _ _ => rfl) rfl ?_
        refine fl_Tq.psh (n := 1) (v := fl_f 0x40000000) rfl rfl rfl (fun _ _ _ => rfl) ?_
        have n2 : vf_n32 (FP.fdiv x 0x40000000) := fp_div32 hx (by decide) (by decide)
        refine fl_Tq.bi (u := fl_f (FP.fdiv x 0x40000000)) rfl rfl rfl (fl_fbin (fun _ _ _ => rfl) n2) ?_
        refine fl_Tq.dso (i := 2) (w := 2) (n := 1) rfl rfl rfl (fun _ _ _ => rfl) rfl ?_
        refine fl_Tq.stp rfl rfl (fl_bo rfl) rfl ?_
        refine fl_Tq.stp rfl rfl (fl_bo rfl) rfl ?_
        refine fl_Tq.stp rfl rfl (fl_bo rfl) rfl ?_
        have := ih (n + 1) (FP.fdiv x 0x40000000) (e + Int32.ofInt 1) (by omega) n2
        rw [← at_inc (by omega)] at this
        exact this
  refine fl_Tq.dld (i := 0) (w := 2) (n := 1) (v := fl_f b) rfl rfl rfl (fun _ _ _ => rfl) rfl ?_
  refine fl_Tq.psh (n := 1) (v := fl_f 0) rfl rfl rfl (fun _ _ _ => rfl) ?_
  refine fl_Tq.bi (u := .inl (Op.cmpValue (FP.fcmp b 0) .g)) rfl rfl rfl (fun _ _ _ => rfl) ?_
  cases hb : am_c1 .gt (Op.cmpValue (FP.fcmp b 0) .g) with
  | false =>
    refine fl_Tq.zf rfl (fl_bo rfl) hb rfl ?_
    refine fl_Tq.stp rfl rfl (fl_bo rfl) rfl ?_
    exact fl_Tq.ret rfl rfl rfl (k _)
  | true =>
    refine fl_Tq.zt rfl (fl_bo rfl) hb rfl ?_
    refine fl_Tq.stp rfl rfl (fl_bo rfl) rfl ?_
    refine fl_Tq.stp rfl rfl (fl_bo rfl) rfl ?_
    refine fl_Tq.dld (i := 0) (w := 2) (n := 1) (v := fl_f b) rfl rfl rfl (fun _ _ _ => rfl) rfl ?_
    refine fl_Tq.dso (i := 2) (w := 2) (n := 1) rfl rfl rfl (fun _ _ _ => rfl) rfl ?_
    refine fl_Tq.stp rfl rfl (fl_bo rfl) rfl ?_
    refine fl_Tq.stp rfl rfl (fl_bo rfl) rfl ?_
    have loop : ∀ (d n : Nat) (x : UInt32) (e : Int32), n + d = 32 → vf_n32 x → fl_Tq (pw_P L xs) 182 14 [some (fl_f b), some (.inl e), some (fl_f x), some (.inl (Int32.ofNat n))] [] m Q := by
      intro d
      induction d with
      | zero =>
        intro n x e hn hx
        have hn : n = 32 := by omega
        subst hn
        refine fl_Tq.stp rfl rfl (fl_bo rfl) rfl ?_
        refine fl_Tq.stp rfl rfl (fl_bo rfl) rfl ?_
        refine fl_Tq.jt rfl (fl_bo rfl) (by decide +kernel) rfl ?_
        refine fl_Tq.stp rfl rfl (fl_bo rfl) rfl ?_
        refine fl_Tq.stp rfl rfl (fl_bo rfl) rfl ?_
        exact down 32 0 x e (by omega) hx
      | succ d ih =>
        intro n x e hn hx
        have en := at_ofN (k := n) (by omega)
        refine fl_Tq.stp rfl rfl (fl_bo rfl) rfl ?_
        refine fl_Tq.stp rfl rfl (fl_bo rfl) rfl ?_
        refine fl_Tq.jf rfl (fl_bo rfl) ?_ rfl ?_
        · rw [at_c2, en]
          exact decide_eq_false (by show ¬ (0 ≤ (n : Int) - (32 : Int)); omega)
        refine fl_Tq.dld (i := 2) (w := 2) (n := 1) (v := fl_f x) rfl rfl rfl (fun _ _ _ => rfl) rfl ?_
        refine fl_Tq.psh (n := 1) (v := fl_f 0x3f800000) rfl rfl rfl (fun _ _ _ => rfl) ?_
        refine fl_Tq.bi (u := .inl (Op.cmpValue (FP.fcmp x 0x3f800000) .g)) rfl rfl rfl (fun _ _ _ => rfl) ?_
        cases hc : am_c1 .ge (Op.cmpValue (FP.fcmp x 0x3f800000) .g) with
        | true =>
          refine fl_Tq.zt rfl (fl_bo rfl) hc rfl ?_
          refine fl_Tq.stp rfl rfl (fl_bo rfl) rfl ?_
          refine fl_Tq.stp rfl rfl (fl_bo rfl) rfl ?_
          exact down 32 0 x e (by omega) hx
        | false =>
          refine fl_Tq.zf rfl (fl_bo rfl) hc rfl ?_
          refine fl_Tq.dld (i := 2) (w := 2) (n := 1) (v := fl_f x) rfl rfl rfl (fun _ _ _ => rfl) rfl ?_
          refine fl_Tq.psh (n := 1) (v := fl_f 0x40000000) rfl rfl rfl (fun _ _ _ => rfl) ?_
          have n2 : vf_n32 (FP.fmul x 0x40000000) := fp_mul32 hx (by decide) (by decide)
          refine fl_Tq.bi (u := fl_f (FP.fmul x 0x40000000)) rfl rfl rfl (fl_fbin (fun _ _ _ => rfl) n2) ?_
          refine fl_Tq.dso (i := 2) (w := 2) (n := 1) rfl rfl rfl (fun _ _ _ => rfl) rfl ?_
          refine fl_Tq.stp rfl rfl (fl_bo rfl) rfl ?_
          refine fl_Tq.stp rfl rfl (fl_bo rfl) rfl ?_
          refine fl_Tq.stp rfl rfl (fl_bo rfl) rfl ?_
          have := ih (n + 1) (FP.fmul x 0x40000000) (e + Int32.ofInt (-1)) (by omega) n2
          rw [← at_inc (by omega)] at this
          exact this
    exact loop 32 0 b (Int32.ofInt 0) (by omega) hb0
end ATF2
