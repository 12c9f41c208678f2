/-! ===== this row's own, printed by wip/t2/cmp ===== -/
theorem x_steps {L : Nat} {xs : Nat → Int32} {f : t2_F} {l : t2_L} {Q : Option fl_V → fl_M → Prop}   (k : Q (some (.inl (f 271 2))) (f, l)) : fl_Tq (pw_P L xs) 158 0 [some (.inr (.inr (.inl (0, 0))))] [] (f, l) Q := by
  refine fl_Tq.stp (pc' := 1) (lv' := [some (.inr (.inr (.inl (0, 0))))]) (st' := [.inr (.inr (.inl (0, 0)))]) (m' := (f, l)) rfl rfl (fl_bo rfl) rfl ?_
  refine fl_Tq.stp (pc' := 4) (lv' := [some (.inr (.inr (.inl (0, 0))))]) (st' := [.inr (.inr (.inl (73, 271)))]) (m' := (f, l)) rfl rfl (fl_bo rfl) rfl ?_
  refine fl_Tq.gfV (k := 2) (v := f 271 2) rfl (fl_bo rfl) rfl rfl ?_
  exact fl_Tq.ret rfl rfl rfl k
theorem y_steps {L : Nat} {xs : Nat → Int32} {f : t2_F} {l : t2_L} {Q : Option fl_V → fl_M → Prop}   (k : Q (some (.inl (f 280 0))) (f, l)) : fl_Tq (pw_P L xs) 325 0 [some (.inr (.inr (.inl (76, 277))))] [] (f, l) Q := by
  refine fl_Tq.stp (pc' := 1) (lv' := [some (.inr (.inr (.inl (76, 277))))]) (st' := [.inr (.inr (.inl (76, 277)))]) (m' := (f, l)) rfl rfl (fl_bo rfl) rfl ?_
  refine fl_Tq.stp (pc' := 4) (lv' := [some (.inr (.inr (.inl (76, 277))))]) (st' := [.inr (.inr (.inl (79, 280)))]) (m' := (f, l)) rfl rfl (fl_bo rfl) rfl ?_
  refine fl_Tq.cI (c := (0 : Int32)) rfl (by decide +kernel) (fl_bo rfl) ?_
  refine fl_Tq.ldV (p := 280) (τ := 79) (n := 29780) (z := (0, 0, 0)) (k := 0) (v := f 280 0) rfl (fl_bo rfl) rfl (by decide +kernel) (by decide) rfl ?_
  exact fl_Tq.ret rfl rfl rfl k
/-! ===== steps() on both sides ===== -/
theorem t2_cmp {L : Nat} {xs : Nat → Int32} {f : t2_F} {l : t2_L} (_hall : ∀ c ∈ at_CM ++ at_CA, at_Valid at_XI (pw_P L xs) c) (hg : t2_Z (f, l)) : fl_Tq (pw_P L xs) 158 0 (fl_args (am_mxl (pw_P L xs) 158) [lx_x]) [] (f, l) (t2_End L xs 325 [at_this]) := by
  have e : f 271 2 = f 280 0 := hg.2.2.1.1.1
  refine t2_qq (y := f 280 0) hg (fun Q k => ?_) (fun Q k => ?_)
  · rw [← e] at k
    exact x_steps k
  · exact y_steps k
