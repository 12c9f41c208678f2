/-! 95.05.35p62.lean.txt -/
section
theorem x_po_A {L : Nat} {xs : Nat → Int32} {f : t2_F} {l : t2_L} {Q : Option fl_V → fl_M → Prop} {a b : Int32}  (k : ((if (t2_within_v a (0 : Int32) (1 : Int32)).toInt = 0 then (0 : Int32) else (if (t2_within_v b (1 : Int32) (60 : Int32)).toInt = 0 then (0 : Int32) else (1 : Int32))).toInt = 0) → Q (some (.inl (-1 : Int32))) (f, l)) (k1 : (¬ ((if (t2_within_v a (0 : Int32) (1 : Int32)).toInt = 0 then (0 : Int32) else (if (t2_within_v b (1 : Int32) (60 : Int32)).toInt = 0 then (0 : Int32) else (1 : Int32))).toInt = 0)) → ((f 1 7).toInt = (2 : Int32).toInt) → ((9999 : Int32).toInt < ((f 1 6) + b).toInt) → Q (some (.inl (-1 : Int32))) (f, l)) (k2 : (¬ ((if (t2_within_v a (0 : Int32) (1 : Int32)).toInt = 0 then (0 : Int32) else (if (t2_within_v b (1 : Int32) (60 : Int32)).toInt = 0 then (0 : Int32) else (1 : Int32))).toInt = 0)) → ((f 1 7).toInt = (2 : Int32).toInt) → (¬ ((9999 : Int32).toInt < ((f 1 6) + b).toInt)) → fl_Tq (pw_P L xs) 164 73 [some (.inr (.inr (.inl (0, 0)))), some (.inl a), some (.inl b), some (.inl (if (t2_within_v a (0 : Int32) (1 : Int32)).toInt = 0 then (0 : Int32) else (if (t2_within_v b (1 : Int32) (60 : Int32)).toInt = 0 then (0 : Int32) else (1 : Int32)))), some (.inl (if a.toInt = 0 then (1 : Int32) else (-1 : Int32))), none] [.inl a, .inr (.inr (.inl (1, 1)))] (f, l) Q) (k3 : (¬ ((if (t2_within_v a (0 : Int32) (1 : Int32)).toInt = 0 then (0 : Int32) else (if (t2_within_v b (1 : Int32) (60 : Int32)).toInt = 0 then (0 : Int32) else (1 : Int32))).toInt = 0)) → (¬ ((f 1 7).toInt = (2 : Int32).toInt)) → Q (some (.inl (-1 : Int32))) (f, l)) : fl_Tq (pw_P L xs) 164 0 [some (.inr (.inr (.inl (0, 0)))), some (.inl a), some (.inl b), none, none, none] [] (f, l) Q := by
  refine fl_Tq.stp (pc' := 1) (lv' := [some (.inr (.inr (.inl (0, 0)))), some (.inl a), some (.inl b), none, none, none]) (st' := [.inl a]) (m' := (f, l)) rfl rfl (fl_bo rfl) rfl ?_
  refine fl_Tq.cI (c := (0 : Int32)) rfl (by decide +kernel) (fl_bo rfl) ?_
  refine fl_Tq.cI (c := (1 : Int32)) rfl (by decide +kernel) (fl_bo rfl) ?_
  refine fl_Tq.cal rfl rfl (fl_bo rfl) rfl ?_
  refine t2_within_q  ?_
  show fl_Tq _ 164 6 [some (.inr (.inr (.inl (0, 0)))), some (.inl a), some (.inl b), none, none, none] [.inl (t2_within_v a (0 : Int32) (1 : Int32))] (f, l) _
  have hj190 : fl_Tq (pw_P L xs) 164 24 [some (.inr (.inr (.inl (0, 0)))), some (.inl a), some (.inl b), none, none, none] [.inl (if (t2_within_v a (0 : Int32) (1 : Int32)).toInt = 0 then (0 : Int32) else (if (t2_within_v b (1 : Int32) (60 : Int32)).toInt = 0 then (0 : Int32) else (1 : Int32)))] (f, l) Q → fl_Tq (pw_P L xs) 164 6 [some (.inr (.inr (.inl (0, 0)))), some (.inl a), some (.inl b), none, none, none] [.inl (t2_within_v a (0 : Int32) (1 : Int32))] (f, l) Q := by
    intro hJ
    by_cases h1 : (t2_within_v a (0 : Int32) (1 : Int32)).toInt = 0
    · refine fl_Tq.zt rfl (fl_bo rfl) (c1_eq_t h1) rfl ?_
      refine fl_Tq.cI (c := (0 : Int32)) rfl (by decide +kernel) (fl_bo rfl) ?_
      have e0 : (if (t2_within_v a (0 : Int32) (1 : Int32)).toInt = 0 then (0 : Int32) else (if (t2_within_v b (1 : Int32) (60 : Int32)).toInt = 0 then (0 : Int32) else (1 : Int32))) = (0 : Int32) := by simp only [if_pos h1]
      rw [e0] at hJ
      exact hJ
    · refine fl_Tq.zf rfl (fl_bo rfl) (c1_eq_f h1) rfl ?_
      refine fl_Tq.stp (pc' := 10) (lv' := [some (.inr (.inr (.inl (0, 0)))), some (.inl a), some (.inl b), none, none, none]) (st' := [.inl b]) (m' := (f, l)) rfl rfl (fl_bo rfl) rfl ?_
      refine fl_Tq.cI (c := (1 : Int32)) rfl (by decide +kernel) (fl_bo rfl) ?_
      refine fl_Tq.cB (c := (60 : Int32)) rfl (by decide +kernel) (fl_bo rfl) ?_
      refine fl_Tq.cal rfl rfl (fl_bo rfl) rfl ?_
      refine t2_within_q  ?_
      show fl_Tq _ 164 16 [some (.inr (.inr (.inl (0, 0)))), some (.inl a), some (.inl b), none, none, none] [.inl (t2_within_v b (1 : Int32) (60 : Int32))] (f, l) _
      by_cases h2 : (t2_within_v b (1 : Int32) (60 : Int32)).toInt = 0
      · refine fl_Tq.zt rfl (fl_bo rfl) (c1_eq_t h2) rfl ?_
        refine fl_Tq.cI (c := (0 : Int32)) rfl (by decide +kernel) (fl_bo rfl) ?_
        have e0 : (if (t2_within_v a (0 : Int32) (1 : Int32)).toInt = 0 then (0 : Int32) else (if (t2_within_v b (1 : Int32) (60 : Int32)).toInt = 0 then (0 : Int32) else (1 : Int32))) = (0 : Int32) := by simp only [if_neg h1, if_pos h2]
        rw [e0] at hJ
        exact hJ
      · refine fl_Tq.zf rfl (fl_bo rfl) (c1_eq_f h2) rfl ?_
        refine fl_Tq.cI (c := (1 : Int32)) rfl (by decide +kernel) (fl_bo rfl) ?_
        refine fl_Tq.stp (pc' := 24) (lv' := [some (.inr (.inr (.inl (0, 0)))), some (.inl a), some (.inl b), none, none, none]) (st' := [.inl (1 : Int32)]) (m' := (f, l)) rfl rfl (fl_bo rfl) rfl ?_
        have e0 : (if (t2_within_v a (0 : Int32) (1 : Int32)).toInt = 0 then (0 : Int32) else (if (t2_within_v b (1 : Int32) (60 : Int32)).toInt = 0 then (0 : Int32) else (1 : Int32))) = (1 : Int32) := by simp only [if_neg h1, if_neg h2]
        rw [e0] at hJ
        exact hJ
  refine hj190 ?_
  show fl_Tq _ 164 24 [some (.inr (.inr (.inl (0, 0)))), some (.inl a), some (.inl b), none, none, none] [.inl (if (t2_within_v a (0 : Int32) (1 : Int32)).toInt = 0 then (0 : Int32) else (if (t2_within_v b (1 : Int32) (60 : Int32)).toInt = 0 then (0 : Int32) else (1 : Int32)))] (f, l) _
  refine fl_Tq.stp (pc' := 25) (lv' := [some (.inr (.inr (.inl (0, 0)))), some (.inl a), some (.inl b), some (.inl (if (t2_within_v a (0 : Int32) (1 : Int32)).toInt = 0 then (0 : Int32) else (if (t2_within_v b (1 : Int32) (60 : Int32)).toInt = 0 then (0 : Int32) else (1 : Int32)))), none, none]) (st' := []) (m' := (f, l)) rfl rfl (fl_bo rfl) rfl ?_
  refine fl_Tq.stp (pc' := 26) (lv' := [some (.inr (.inr (.inl (0, 0)))), some (.inl a), some (.inl b), some (.inl (if (t2_within_v a (0 : Int32) (1 : Int32)).toInt = 0 then (0 : Int32) else (if (t2_within_v b (1 : Int32) (60 : Int32)).toInt = 0 then (0 : Int32) else (1 : Int32)))), none, none]) (st' := [.inl (if (t2_within_v a (0 : Int32) (1 : Int32)).toInt = 0 then (0 : Int32) else (if (t2_within_v b (1 : Int32) (60 : Int32)).toInt = 0 then (0 : Int32) else (1 : Int32)))]) (m' := (f, l)) rfl rfl (fl_bo rfl) rfl ?_
  by_cases h3 : (if (t2_within_v a (0 : Int32) (1 : Int32)).toInt = 0 then (0 : Int32) else (if (t2_within_v b (1 : Int32) (60 : Int32)).toInt = 0 then (0 : Int32) else (1 : Int32))).toInt = 0
  · refine fl_Tq.zt rfl (fl_bo rfl) (c1_eq_t h3) rfl ?_
    refine fl_Tq.cI (c := (-1 : Int32)) rfl (by decide +kernel) (fl_bo rfl) ?_
    exact fl_Tq.ret rfl rfl rfl (k h3)
  · refine fl_Tq.zf rfl (fl_bo rfl) (c1_eq_f h3) rfl ?_
    refine fl_Tq.stp (pc' := 30) (lv' := [some (.inr (.inr (.inl (0, 0)))), some (.inl a), some (.inl b), some (.inl (if (t2_within_v a (0 : Int32) (1 : Int32)).toInt = 0 then (0 : Int32) else (if (t2_within_v b (1 : Int32) (60 : Int32)).toInt = 0 then (0 : Int32) else (1 : Int32)))), none, none]) (st' := [.inr (.inr (.inl (0, 0)))]) (m' := (f, l)) rfl rfl (fl_bo rfl) rfl ?_
    refine fl_Tq.stp (pc' := 33) (lv' := [some (.inr (.inr (.inl (0, 0)))), some (.inl a), some (.inl b), some (.inl (if (t2_within_v a (0 : Int32) (1 : Int32)).toInt = 0 then (0 : Int32) else (if (t2_within_v b (1 : Int32) (60 : Int32)).toInt = 0 then (0 : Int32) else (1 : Int32)))), none, none]) (st' := [.inr (.inr (.inl (1, 1)))]) (m' := (f, l)) rfl rfl (fl_bo rfl) rfl ?_
    refine fl_Tq.gfV (k := 7) (v := f 1 7) rfl (fl_bo rfl) rfl rfl ?_
    refine fl_Tq.cI (c := (2 : Int32)) rfl (by decide +kernel) (fl_bo rfl) ?_
    by_cases h4 : (f 1 7).toInt = (2 : Int32).toInt
    · refine fl_Tq.jf rfl (fl_bo rfl) (c2_ne_f h4) rfl ?_
      refine fl_Tq.stp (pc' := 41) (lv' := [some (.inr (.inr (.inl (0, 0)))), some (.inl a), some (.inl b), some (.inl (if (t2_within_v a (0 : Int32) (1 : Int32)).toInt = 0 then (0 : Int32) else (if (t2_within_v b (1 : Int32) (60 : Int32)).toInt = 0 then (0 : Int32) else (1 : Int32)))), none, none]) (st' := [.inr (.inr (.inl (0, 0)))]) (m' := (f, l)) rfl rfl (fl_bo rfl) rfl ?_
      refine fl_Tq.stp (pc' := 44) (lv' := [some (.inr (.inr (.inl (0, 0)))), some (.inl a), some (.inl b), some (.inl (if (t2_within_v a (0 : Int32) (1 : Int32)).toInt = 0 then (0 : Int32) else (if (t2_within_v b (1 : Int32) (60 : Int32)).toInt = 0 then (0 : Int32) else (1 : Int32)))), none, none]) (st' := [.inr (.inr (.inl (1, 1)))]) (m' := (f, l)) rfl rfl (fl_bo rfl) rfl ?_
      refine fl_Tq.gfV (k := 6) (v := f 1 6) rfl (fl_bo rfl) rfl rfl ?_
      refine fl_Tq.stp (pc' := 48) (lv' := [some (.inr (.inr (.inl (0, 0)))), some (.inl a), some (.inl b), some (.inl (if (t2_within_v a (0 : Int32) (1 : Int32)).toInt = 0 then (0 : Int32) else (if (t2_within_v b (1 : Int32) (60 : Int32)).toInt = 0 then (0 : Int32) else (1 : Int32)))), none, none]) (st' := [.inl b, .inl (f 1 6)]) (m' := (f, l)) rfl rfl (fl_bo rfl) rfl ?_
      refine fl_Tq.stp (pc' := 49) (lv' := [some (.inr (.inr (.inl (0, 0)))), some (.inl a), some (.inl b), some (.inl (if (t2_within_v a (0 : Int32) (1 : Int32)).toInt = 0 then (0 : Int32) else (if (t2_within_v b (1 : Int32) (60 : Int32)).toInt = 0 then (0 : Int32) else (1 : Int32)))), none, none]) (st' := [.inl ((f 1 6) + b)]) (m' := (f, l)) rfl rfl (fl_bo rfl) rfl ?_
      refine fl_Tq.cS (c := (9999 : Int32)) rfl (by decide +kernel) (fl_bo rfl) ?_
      by_cases h5 : (9999 : Int32).toInt < ((f 1 6) + b).toInt
      · refine fl_Tq.jf rfl (fl_bo rfl) (c2_le_f h5) rfl ?_
        refine fl_Tq.cI (c := (-1 : Int32)) rfl (by decide +kernel) (fl_bo rfl) ?_
        exact fl_Tq.ret rfl rfl rfl (k1 h3 h4 h5)
      · refine fl_Tq.jt rfl (fl_bo rfl) (c2_le_t h5) rfl ?_
        refine fl_Tq.stp (pc' := 58) (lv' := [some (.inr (.inr (.inl (0, 0)))), some (.inl a), some (.inl b), some (.inl (if (t2_within_v a (0 : Int32) (1 : Int32)).toInt = 0 then (0 : Int32) else (if (t2_within_v b (1 : Int32) (60 : Int32)).toInt = 0 then (0 : Int32) else (1 : Int32)))), none, none]) (st' := [.inl a]) (m' := (f, l)) rfl rfl (fl_bo rfl) rfl ?_
        have hj191 : fl_Tq (pw_P L xs) 164 66 [some (.inr (.inr (.inl (0, 0)))), some (.inl a), some (.inl b), some (.inl (if (t2_within_v a (0 : Int32) (1 : Int32)).toInt = 0 then (0 : Int32) else (if (t2_within_v b (1 : Int32) (60 : Int32)).toInt = 0 then (0 : Int32) else (1 : Int32)))), none, none] [.inl (if a.toInt = 0 then (1 : Int32) else (-1 : Int32))] (f, l) Q → fl_Tq (pw_P L xs) 164 58 [some (.inr (.inr (.inl (0, 0)))), some (.inl a), some (.inl b), some (.inl (if (t2_within_v a (0 : Int32) (1 : Int32)).toInt = 0 then (0 : Int32) else (if (t2_within_v b (1 : Int32) (60 : Int32)).toInt = 0 then (0 : Int32) else (1 : Int32)))), none, none] [.inl a] (f, l) Q := by
          intro hJ
          by_cases h6 : a.toInt = 0
          · refine fl_Tq.zf rfl (fl_bo rfl) (c1_ne_f h6) rfl ?_
            refine fl_Tq.cI (c := (1 : Int32)) rfl (by decide +kernel) (fl_bo rfl) ?_
            refine fl_Tq.stp (pc' := 66) (lv' := [some (.inr (.inr (.inl (0, 0)))), some (.inl a), some (.inl b), some (.inl (if (t2_within_v a (0 : Int32) (1 : Int32)).toInt = 0 then (0 : Int32) else (if (t2_within_v b (1 : Int32) (60 : Int32)).toInt = 0 then (0 : Int32) else (1 : Int32)))), none, none]) (st' := [.inl (1 : Int32)]) (m' := (f, l)) rfl rfl (fl_bo rfl) rfl ?_
            have e0 : (if a.toInt = 0 then (1 : Int32) else (-1 : Int32)) = (1 : Int32) := by simp only [if_pos h6]
            rw [e0] at hJ
            exact hJ
          · refine fl_Tq.zt rfl (fl_bo rfl) (c1_ne_t h6) rfl ?_
            refine fl_Tq.cI (c := (-1 : Int32)) rfl (by decide +kernel) (fl_bo rfl) ?_
            have e0 : (if a.toInt = 0 then (1 : Int32) else (-1 : Int32)) = (-1 : Int32) := by simp only [if_neg h6]
            rw [e0] at hJ
            exact hJ
        refine hj191 ?_
        show fl_Tq _ 164 66 [some (.inr (.inr (.inl (0, 0)))), some (.inl a), some (.inl b), some (.inl (if (t2_within_v a (0 : Int32) (1 : Int32)).toInt = 0 then (0 : Int32) else (if (t2_within_v b (1 : Int32) (60 : Int32)).toInt = 0 then (0 : Int32) else (1 : Int32)))), none, none] [.inl (if a.toInt = 0 then (1 : Int32) else (-1 : Int32))] (f, l) _
        refine fl_Tq.stp (pc' := 68) (lv' := [some (.inr (.inr (.inl (0, 0)))), some (.inl a), some (.inl b), some (.inl (if (t2_within_v a (0 : Int32) (1 : Int32)).toInt = 0 then (0 : Int32) else (if (t2_within_v b (1 : Int32) (60 : Int32)).toInt = 0 then (0 : Int32) else (1 : Int32)))), some (.inl (if a.toInt = 0 then (1 : Int32) else (-1 : Int32))), none]) (st' := []) (m' := (f, l)) rfl rfl (fl_bo rfl) rfl ?_
        refine fl_Tq.stp (pc' := 69) (lv' := [some (.inr (.inr (.inl (0, 0)))), some (.inl a), some (.inl b), some (.inl (if (t2_within_v a (0 : Int32) (1 : Int32)).toInt = 0 then (0 : Int32) else (if (t2_within_v b (1 : Int32) (60 : Int32)).toInt = 0 then (0 : Int32) else (1 : Int32)))), some (.inl (if a.toInt = 0 then (1 : Int32) else (-1 : Int32))), none]) (st' := [.inr (.inr (.inl (0, 0)))]) (m' := (f, l)) rfl rfl (fl_bo rfl) rfl ?_
        refine fl_Tq.stp (pc' := 72) (lv' := [some (.inr (.inr (.inl (0, 0)))), some (.inl a), some (.inl b), some (.inl (if (t2_within_v a (0 : Int32) (1 : Int32)).toInt = 0 then (0 : Int32) else (if (t2_within_v b (1 : Int32) (60 : Int32)).toInt = 0 then (0 : Int32) else (1 : Int32)))), some (.inl (if a.toInt = 0 then (1 : Int32) else (-1 : Int32))), none]) (st' := [.inr (.inr (.inl (1, 1)))]) (m' := (f, l)) rfl rfl (fl_bo rfl) rfl ?_
        refine fl_Tq.stp (pc' := 73) (lv' := [some (.inr (.inr (.inl (0, 0)))), some (.inl a), some (.inl b), some (.inl (if (t2_within_v a (0 : Int32) (1 : Int32)).toInt = 0 then (0 : Int32) else (if (t2_within_v b (1 : Int32) (60 : Int32)).toInt = 0 then (0 : Int32) else (1 : Int32)))), some (.inl (if a.toInt = 0 then (1 : Int32) else (-1 : Int32))), none]) (st' := [.inl a, .inr (.inr (.inl (1, 1)))]) (m' := (f, l)) rfl rfl (fl_bo rfl) rfl ?_
        exact k2 h3 h4 h5
    · refine fl_Tq.jt rfl (fl_bo rfl) (c2_ne_t h4) rfl ?_
      refine fl_Tq.cI (c := (-1 : Int32)) rfl (by decide +kernel) (fl_bo rfl) ?_
      exact fl_Tq.ret rfl rfl rfl (k3 h3 h4)
theorem x_po_B {L : Nat} {xs : Nat → Int32} {f : t2_F} {l : t2_L} {Q : Option fl_V → fl_M → Prop} {a b c d z : Int32}  (k : fl_Tq (pw_P L xs) 164 84 [some (.inr (.inr (.inl (0, 0)))), some (.inl a), some (.inl b), some (.inl c), some (.inl d), some (.inl ((z / (100 : Int32)) * (100 : Int32)))] [] (f, l) Q) : fl_Tq (pw_P L xs) 164 76 [some (.inr (.inr (.inl (0, 0)))), some (.inl a), some (.inl b), some (.inl c), some (.inl d), none] [.inl z] (f, l) Q := by
  refine fl_Tq.cB (c := (100 : Int32)) rfl (by decide +kernel) (fl_bo rfl) ?_
  refine fl_Tq.dv rfl (fl_bo rfl) (by decide +kernel) ?_
  refine fl_Tq.cB (c := (100 : Int32)) rfl (by decide +kernel) (fl_bo rfl) ?_
  refine fl_Tq.stp (pc' := 82) (lv' := [some (.inr (.inr (.inl (0, 0)))), some (.inl a), some (.inl b), some (.inl c), some (.inl d), none]) (st' := [.inl ((z / (100 : Int32)) * (100 : Int32))]) (m' := (f, l)) rfl rfl (fl_bo rfl) rfl ?_
  refine fl_Tq.stp (pc' := 84) (lv' := [some (.inr (.inr (.inl (0, 0)))), some (.inl a), some (.inl b), some (.inl c), some (.inl d), some (.inl ((z / (100 : Int32)) * (100 : Int32)))]) (st' := []) (m' := (f, l)) rfl rfl (fl_bo rfl) rfl ?_
  exact k
theorem x_po_C {L : Nat} {xs : Nat → Int32} {f : t2_F} {l : t2_L} {Q : Option fl_V → fl_M → Prop} {a b c d e : Int32}  (k : (0 < e.toInt) → fl_Tq (pw_P L xs) 164 96 [some (.inr (.inr (.inl (0, 0)))), some (.inl a), some (.inl b), some (.inl c), some (.inl d), some (.inl e)] [.inl b, .inl (d * e), .inr (.inr (.inl (0, 0)))] (f, l) Q) (k1 : (¬ (0 < e.toInt)) → Q (some (.inl (0 : Int32))) (f, l)) : fl_Tq (pw_P L xs) 164 84 [some (.inr (.inr (.inl (0, 0)))), some (.inl a), some (.inl b), some (.inl c), some (.inl d), some (.inl e)] [] (f, l) Q := by
  refine fl_Tq.stp (pc' := 86) (lv' := [some (.inr (.inr (.inl (0, 0)))), some (.inl a), some (.inl b), some (.inl c), some (.inl d), some (.inl e)]) (st' := [.inl e]) (m' := (f, l)) rfl rfl (fl_bo rfl) rfl ?_
  by_cases h1 : 0 < e.toInt
  · refine fl_Tq.zf rfl (fl_bo rfl) (c1_le_f h1) rfl ?_
    refine fl_Tq.stp (pc' := 90) (lv' := [some (.inr (.inr (.inl (0, 0)))), some (.inl a), some (.inl b), some (.inl c), some (.inl d), some (.inl e)]) (st' := [.inr (.inr (.inl (0, 0)))]) (m' := (f, l)) rfl rfl (fl_bo rfl) rfl ?_
    refine fl_Tq.stp (pc' := 92) (lv' := [some (.inr (.inr (.inl (0, 0)))), some (.inl a), some (.inl b), some (.inl c), some (.inl d), some (.inl e)]) (st' := [.inl d, .inr (.inr (.inl (0, 0)))]) (m' := (f, l)) rfl rfl (fl_bo rfl) rfl ?_
    refine fl_Tq.stp (pc' := 94) (lv' := [some (.inr (.inr (.inl (0, 0)))), some (.inl a), some (.inl b), some (.inl c), some (.inl d), some (.inl e)]) (st' := [.inl e, .inl d, .inr (.inr (.inl (0, 0)))]) (m' := (f, l)) rfl rfl (fl_bo rfl) rfl ?_
    refine fl_Tq.stp (pc' := 95) (lv' := [some (.inr (.inr (.inl (0, 0)))), some (.inl a), some (.inl b), some (.inl c), some (.inl d), some (.inl e)]) (st' := [.inl (d * e), .inr (.inr (.inl (0, 0)))]) (m' := (f, l)) rfl rfl (fl_bo rfl) rfl ?_
    refine fl_Tq.stp (pc' := 96) (lv' := [some (.inr (.inr (.inl (0, 0)))), some (.inl a), some (.inl b), some (.inl c), some (.inl d), some (.inl e)]) (st' := [.inl b, .inl (d * e), .inr (.inr (.inl (0, 0)))]) (m' := (f, l)) rfl rfl (fl_bo rfl) rfl ?_
    exact k h1
  · refine fl_Tq.zt rfl (fl_bo rfl) (c1_le_t h1) rfl ?_
    refine fl_Tq.cI (c := (0 : Int32)) rfl (by decide +kernel) (fl_bo rfl) ?_
    exact fl_Tq.ret rfl rfl rfl (k1 h1)
theorem x_po_D {L : Nat} {xs : Nat → Int32} {f : t2_F} {l : t2_L} {Q : Option fl_V → fl_M → Prop} {a b c d e z : Int32}  (k : (z.toInt = 0) → fl_Tq (pw_P L xs) 164 84 [some (.inr (.inr (.inl (0, 0)))), some (.inl a), some (.inl b), some (.inl c), some (.inl d), some (.inl (e + (-100 : Int32)))] [] (f, l) Q) (k1 : (¬ (z.toInt = 0)) → Q (some (.inl (d * e))) (f, l)) : fl_Tq (pw_P L xs) 164 99 [some (.inr (.inr (.inl (0, 0)))), some (.inl a), some (.inl b), some (.inl c), some (.inl d), some (.inl e)] [.inl z] (f, l) Q := by
  by_cases h1 : z.toInt = 0
  · refine fl_Tq.zt rfl (fl_bo rfl) (c1_eq_t h1) rfl ?_
    refine fl_Tq.stp (pc' := 111) (lv' := [some (.inr (.inr (.inl (0, 0)))), some (.inl a), some (.inl b), some (.inl c), some (.inl d), some (.inl (e + (-100 : Int32)))]) (st' := []) (m' := (f, l)) rfl rfl (fl_bo rfl) rfl ?_
    refine fl_Tq.stp (pc' := 84) (lv' := [some (.inr (.inr (.inl (0, 0)))), some (.inl a), some (.inl b), some (.inl c), some (.inl d), some (.inl (e + (-100 : Int32)))]) (st' := []) (m' := (f, l)) rfl rfl (fl_bo rfl) rfl ?_
    exact k h1
  · refine fl_Tq.zf rfl (fl_bo rfl) (c1_eq_f h1) rfl ?_
    refine fl_Tq.stp (pc' := 104) (lv' := [some (.inr (.inr (.inl (0, 0)))), some (.inl a), some (.inl b), some (.inl c), some (.inl d), some (.inl e)]) (st' := [.inl d]) (m' := (f, l)) rfl rfl (fl_bo rfl) rfl ?_
    refine fl_Tq.stp (pc' := 106) (lv' := [some (.inr (.inr (.inl (0, 0)))), some (.inl a), some (.inl b), some (.inl c), some (.inl d), some (.inl e)]) (st' := [.inl e, .inl d]) (m' := (f, l)) rfl rfl (fl_bo rfl) rfl ?_
    refine fl_Tq.stp (pc' := 107) (lv' := [some (.inr (.inr (.inl (0, 0)))), some (.inl a), some (.inl b), some (.inl c), some (.inl d), some (.inl e)]) (st' := [.inl (d * e)]) (m' := (f, l)) rfl rfl (fl_bo rfl) rfl ?_
    exact fl_Tq.ret rfl rfl rfl (k1 h1)
theorem x_be_A {L : Nat} {xs : Nat → Int32} {f : t2_F} {l : t2_L} {Q : Option fl_V → fl_M → Prop} {a b : Int32}  (k : fl_Tq (pw_P L xs) 170 8 [some (.inr (.inr (.inl (0, 0)))), some (.inl a), some (.inl b), none] [.inr (.inr (.inl (1, 1))), .inr (.inr (.inl (49, 181)))] (f, l) Q) : fl_Tq (pw_P L xs) 170 0 [some (.inr (.inr (.inl (0, 0)))), some (.inl a), some (.inl b), none] [] (f, l) Q := by
  refine fl_Tq.stp (pc' := 1) (lv' := [some (.inr (.inr (.inl (0, 0)))), some (.inl a), some (.inl b), none]) (st' := [.inr (.inr (.inl (0, 0)))]) (m' := (f, l)) rfl rfl (fl_bo rfl) rfl ?_
  refine fl_Tq.stp (pc' := 4) (lv' := [some (.inr (.inr (.inl (0, 0)))), some (.inl a), some (.inl b), none]) (st' := [.inr (.inr (.inl (49, 181)))]) (m' := (f, l)) rfl rfl (fl_bo rfl) rfl ?_
  refine fl_Tq.stp (pc' := 5) (lv' := [some (.inr (.inr (.inl (0, 0)))), some (.inl a), some (.inl b), none]) (st' := [.inr (.inr (.inl (0, 0))), .inr (.inr (.inl (49, 181)))]) (m' := (f, l)) rfl rfl (fl_bo rfl) rfl ?_
  refine fl_Tq.stp (pc' := 8) (lv' := [some (.inr (.inr (.inl (0, 0)))), some (.inl a), some (.inl b), none]) (st' := [.inr (.inr (.inl (1, 1))), .inr (.inr (.inl (49, 181)))]) (m' := (f, l)) rfl rfl (fl_bo rfl) rfl ?_
  exact k
theorem x_be_B {L : Nat} {xs : Nat → Int32} {f : t2_F} {l : t2_L} {Q : Option fl_V → fl_M → Prop} {a b : Int32}  (k : fl_Tq (pw_P L xs) 170 52 [some (.inr (.inr (.inl (0, 0)))), some (.inl a), some (.inl b), some (.inl (0 : Int32))] [] (fl_row (fl_row f 183 (upd (f 183) 8 (0 : Int32))) 184 (upd (upd (f 184) 23 (0 : Int32)) 20 a), l) Q) : fl_Tq (pw_P L xs) 170 11 [some (.inr (.inr (.inl (0, 0)))), some (.inl a), some (.inl b), none] [] (f, l) Q := by
  refine fl_Tq.stp (pc' := 12) (lv' := [some (.inr (.inr (.inl (0, 0)))), some (.inl a), some (.inl b), none]) (st' := [.inr (.inr (.inl (0, 0)))]) (m' := (f, l)) rfl rfl (fl_bo rfl) rfl ?_
  refine fl_Tq.stp (pc' := 15) (lv' := [some (.inr (.inr (.inl (0, 0)))), some (.inl a), some (.inl b), none]) (st' := [.inr (.inr (.inl (49, 181)))]) (m' := (f, l)) rfl rfl (fl_bo rfl) rfl ?_
  refine fl_Tq.stp (pc' := 18) (lv' := [some (.inr (.inr (.inl (0, 0)))), some (.inl a), some (.inl b), none]) (st' := [.inr (.inr (.inl (51, 183)))]) (m' := (f, l)) rfl rfl (fl_bo rfl) rfl ?_
  refine fl_Tq.cI (c := (0 : Int32)) rfl (by decide +kernel) (fl_bo rfl) ?_
  refine fl_Tq.pfV (k := 8) (m' := (fl_row f 183 (upd (f 183) 8 (0 : Int32)), l)) rfl (fl_bo rfl) rfl (t2_upn rfl) ?_
  refine fl_Tq.stp (pc' := 23) (lv' := [some (.inr (.inr (.inl (0, 0)))), some (.inl a), some (.inl b), none]) (st' := [.inr (.inr (.inl (0, 0)))]) (m' := (fl_row f 183 (upd (f 183) 8 (0 : Int32)), l)) rfl rfl (fl_bo rfl) rfl ?_
  refine fl_Tq.stp (pc' := 26) (lv' := [some (.inr (.inr (.inl (0, 0)))), some (.inl a), some (.inl b), none]) (st' := [.inr (.inr (.inl (49, 181)))]) (m' := (fl_row f 183 (upd (f 183) 8 (0 : Int32)), l)) rfl rfl (fl_bo rfl) rfl ?_
  refine fl_Tq.stp (pc' := 29) (lv' := [some (.inr (.inr (.inl (0, 0)))), some (.inl a), some (.inl b), none]) (st' := [.inr (.inr (.inl (51, 183)))]) (m' := (fl_row f 183 (upd (f 183) 8 (0 : Int32)), l)) rfl rfl (fl_bo rfl) rfl ?_
  refine fl_Tq.stp (pc' := 32) (lv' := [some (.inr (.inr (.inl (0, 0)))), some (.inl a), some (.inl b), none]) (st' := [.inr (.inr (.inl (52, 184)))]) (m' := (fl_row f 183 (upd (f 183) 8 (0 : Int32)), l)) rfl rfl (fl_bo rfl) rfl ?_
  refine fl_Tq.cB (c := (23 : Int32)) rfl (by decide +kernel) (fl_bo rfl) ?_
  refine fl_Tq.cI (c := (0 : Int32)) rfl (by decide +kernel) (fl_bo rfl) ?_
  refine fl_Tq.svV (p := 184) (τ := 52) (n := 30) (z := (0, 0, 0)) (k := 23) (m' := (fl_row (fl_row f 183 (upd (f 183) 8 (0 : Int32))) 184 (upd (f 184) 23 (0 : Int32)), l)) rfl (fl_bo rfl) rfl (by decide +kernel) (by decide) (t2_upn (by rw [fl_row_ne (by decide : 184 ≠ 183)])) ?_
  refine fl_Tq.stp (pc' := 37) (lv' := [some (.inr (.inr (.inl (0, 0)))), some (.inl a), some (.inl b), none]) (st' := [.inr (.inr (.inl (0, 0)))]) (m' := (fl_row (fl_row f 183 (upd (f 183) 8 (0 : Int32))) 184 (upd (f 184) 23 (0 : Int32)), l)) rfl rfl (fl_bo rfl) rfl ?_
  refine fl_Tq.stp (pc' := 40) (lv' := [some (.inr (.inr (.inl (0, 0)))), some (.inl a), some (.inl b), none]) (st' := [.inr (.inr (.inl (49, 181)))]) (m' := (fl_row (fl_row f 183 (upd (f 183) 8 (0 : Int32))) 184 (upd (f 184) 23 (0 : Int32)), l)) rfl rfl (fl_bo rfl) rfl ?_
  refine fl_Tq.stp (pc' := 43) (lv' := [some (.inr (.inr (.inl (0, 0)))), some (.inl a), some (.inl b), none]) (st' := [.inr (.inr (.inl (51, 183)))]) (m' := (fl_row (fl_row f 183 (upd (f 183) 8 (0 : Int32))) 184 (upd (f 184) 23 (0 : Int32)), l)) rfl rfl (fl_bo rfl) rfl ?_
  refine fl_Tq.stp (pc' := 46) (lv' := [some (.inr (.inr (.inl (0, 0)))), some (.inl a), some (.inl b), none]) (st' := [.inr (.inr (.inl (52, 184)))]) (m' := (fl_row (fl_row f 183 (upd (f 183) 8 (0 : Int32))) 184 (upd (f 184) 23 (0 : Int32)), l)) rfl rfl (fl_bo rfl) rfl ?_
  refine fl_Tq.cB (c := (20 : Int32)) rfl (by decide +kernel) (fl_bo rfl) ?_
  refine fl_Tq.stp (pc' := 49) (lv' := [some (.inr (.inr (.inl (0, 0)))), some (.inl a), some (.inl b), none]) (st' := [.inl a, .inl (20 : Int32), .inr (.inr (.inl (52, 184)))]) (m' := (fl_row (fl_row f 183 (upd (f 183) 8 (0 : Int32))) 184 (upd (f 184) 23 (0 : Int32)), l)) rfl rfl (fl_bo rfl) rfl ?_
  refine fl_Tq.svV (p := 184) (τ := 52) (n := 30) (z := (0, 0, 0)) (k := 20) (m' := (fl_row (fl_row f 183 (upd (f 183) 8 (0 : Int32))) 184 (upd (upd (f 184) 23 (0 : Int32)) 20 a), l)) rfl (fl_bo rfl) rfl (by decide +kernel) (by decide) (t2_upr) ?_
  refine fl_Tq.cI (c := (0 : Int32)) rfl (by decide +kernel) (fl_bo rfl) ?_
  refine fl_Tq.stp (pc' := 52) (lv' := [some (.inr (.inr (.inl (0, 0)))), some (.inl a), some (.inl b), some (.inl (0 : Int32))]) (st' := []) (m' := (fl_row (fl_row f 183 (upd (f 183) 8 (0 : Int32))) 184 (upd (upd (f 184) 23 (0 : Int32)) 20 a), l)) rfl rfl (fl_bo rfl) rfl ?_
  exact k
theorem x_be_C {L : Nat} {xs : Nat → Int32} {f : t2_F} {l : t2_L} {Q : Option fl_V → fl_M → Prop} {a b : Int32} {j : Nat}  (k : ((Int32.ofNat j).toInt < b.toInt) → fl_Tq (pw_P L xs) 170 61 [some (.inr (.inr (.inl (0, 0)))), some (.inl a), some (.inl b), some (.inl (Int32.ofNat j))] [.inr (.inr (.inl (49, 181)))] (f, l) Q) (k1 : (¬ ((Int32.ofNat j).toInt < b.toInt)) → Q (some (.inl (1 : Int32))) (f, l)) : fl_Tq (pw_P L xs) 170 52 [some (.inr (.inr (.inl (0, 0)))), some (.inl a), some (.inl b), some (.inl (Int32.ofNat j))] [] (f, l) Q := by
  refine fl_Tq.stp (pc' := 53) (lv' := [some (.inr (.inr (.inl (0, 0)))), some (.inl a), some (.inl b), some (.inl (Int32.ofNat j))]) (st' := [.inl (Int32.ofNat j)]) (m' := (f, l)) rfl rfl (fl_bo rfl) rfl ?_
  refine fl_Tq.stp (pc' := 54) (lv' := [some (.inr (.inr (.inl (0, 0)))), some (.inl a), some (.inl b), some (.inl (Int32.ofNat j))]) (st' := [.inl b, .inl (Int32.ofNat j)]) (m' := (f, l)) rfl rfl (fl_bo rfl) rfl ?_
  by_cases h1 : (Int32.ofNat j).toInt < b.toInt
  · refine fl_Tq.jf rfl (fl_bo rfl) (c2_ge_f h1) rfl ?_
    refine fl_Tq.stp (pc' := 58) (lv' := [some (.inr (.inr (.inl (0, 0)))), some (.inl a), some (.inl b), some (.inl (Int32.ofNat j))]) (st' := [.inr (.inr (.inl (0, 0)))]) (m' := (f, l)) rfl rfl (fl_bo rfl) rfl ?_
    refine fl_Tq.stp (pc' := 61) (lv' := [some (.inr (.inr (.inl (0, 0)))), some (.inl a), some (.inl b), some (.inl (Int32.ofNat j))]) (st' := [.inr (.inr (.inl (49, 181)))]) (m' := (f, l)) rfl rfl (fl_bo rfl) rfl ?_
    exact k h1
  · refine fl_Tq.jt rfl (fl_bo rfl) (c2_ge_t h1) rfl ?_
    refine fl_Tq.cI (c := (1 : Int32)) rfl (by decide +kernel) (fl_bo rfl) ?_
    exact fl_Tq.ret rfl rfl rfl (k1 h1)
theorem x_be_D {L : Nat} {xs : Nat → Int32} {f : t2_F} {l : t2_L} {Q : Option fl_V → fl_M → Prop} {a b z : Int32} {j : Nat}  (k : (0 < z.toInt) → Q (some (.inl (0 : Int32))) (f, l)) (k1 : (¬ (0 < z.toInt)) → ((f 181 9).toInt = a.toInt) → fl_Tq (pw_P L xs) 170 52 [some (.inr (.inr (.inl (0, 0)))), some (.inl a), some (.inl b), some (.inl ((Int32.ofNat j) + (1 : Int32)))] [] (f, l) Q) (k2 : (¬ (0 < z.toInt)) → (¬ ((f 181 9).toInt = a.toInt)) → Q (some (.inl (0 : Int32))) (f, l)) : fl_Tq (pw_P L xs) 170 64 [some (.inr (.inr (.inl (0, 0)))), some (.inl a), some (.inl b), some (.inl (Int32.ofNat j))] [.inl z] (f, l) Q := by
  by_cases h1 : 0 < z.toInt
  · refine fl_Tq.zt rfl (fl_bo rfl) (c1_gt_t h1) rfl ?_
    refine fl_Tq.cI (c := (0 : Int32)) rfl (by decide +kernel) (fl_bo rfl) ?_
    exact fl_Tq.ret rfl rfl rfl (k h1)
  · refine fl_Tq.zf rfl (fl_bo rfl) (c1_gt_f h1) rfl ?_
    refine fl_Tq.stp (pc' := 68) (lv' := [some (.inr (.inr (.inl (0, 0)))), some (.inl a), some (.inl b), some (.inl (Int32.ofNat j))]) (st' := [.inr (.inr (.inl (0, 0)))]) (m' := (f, l)) rfl rfl (fl_bo rfl) rfl ?_
    refine fl_Tq.stp (pc' := 71) (lv' := [some (.inr (.inr (.inl (0, 0)))), some (.inl a), some (.inl b), some (.inl (Int32.ofNat j))]) (st' := [.inr (.inr (.inl (49, 181)))]) (m' := (f, l)) rfl rfl (fl_bo rfl) rfl ?_
    refine fl_Tq.gfV (k := 9) (v := f 181 9) rfl (fl_bo rfl) rfl rfl ?_
    refine fl_Tq.stp (pc' := 75) (lv' := [some (.inr (.inr (.inl (0, 0)))), some (.inl a), some (.inl b), some (.inl (Int32.ofNat j))]) (st' := [.inl a, .inl (f 181 9)]) (m' := (f, l)) rfl rfl (fl_bo rfl) rfl ?_
    by_cases h2 : (f 181 9).toInt = a.toInt
    · refine fl_Tq.jt rfl (fl_bo rfl) (c2_eq_t h2) rfl ?_
      refine fl_Tq.stp (pc' := 83) (lv' := [some (.inr (.inr (.inl (0, 0)))), some (.inl a), some (.inl b), some (.inl ((Int32.ofNat j) + (1 : Int32)))]) (st' := []) (m' := (f, l)) rfl rfl (fl_bo rfl) rfl ?_
      refine fl_Tq.stp (pc' := 52) (lv' := [some (.inr (.inr (.inl (0, 0)))), some (.inl a), some (.inl b), some (.inl ((Int32.ofNat j) + (1 : Int32)))]) (st' := []) (m' := (f, l)) rfl rfl (fl_bo rfl) rfl ?_
      exact k1 h1 h2
    · refine fl_Tq.jf rfl (fl_bo rfl) (c2_eq_f h2) rfl ?_
      refine fl_Tq.cI (c := (0 : Int32)) rfl (by decide +kernel) (fl_bo rfl) ?_
      exact fl_Tq.ret rfl rfl rfl (k2 h1 h2)
theorem y_gb_E {L : Nat} {xs : Nat → Int32} {f : t2_F} {l : t2_L} {Q : Option fl_V → fl_M → Prop} {a b c d : Int32} (hc : c = 0 ∨ c = 1) (k : Q (some (.inl c)) (f, l)) : fl_Tq (pw_P L xs) 315 70 [some (.inr (.inr (.inl (76, 277)))), some (.inl a), some (.inl b), some (.inl c), some (.inl d)] [] (f, l) Q := by
  refine fl_Tq.stp (pc' := 71) (lv' := [some (.inr (.inr (.inl (76, 277)))), some (.inl a), some (.inl b), some (.inl c), some (.inl d)]) (st' := [.inl c]) (m' := (f, l)) rfl rfl (fl_bo rfl) rfl ?_
  exact fl_Tq.ret rfl rfl (if_pos hc) k
def tz_c164 : at_C := (164, [.inl (0, some 0), .inr (false, -2147483648, 2147483647), .inr (false, -2147483648, 2147483647)], [], some (.inr (false, -2147483600, 2147483600)), false, [(49, false, 5, 16), (51, false, 6, 8), (52, false, 0, 29), (53, false, 0, 2), (54, false, 0, 23), (55, false, 0, 11), (56, false, 0, 47), (57, false, 0, 39), (58, false, 3, 6), (59, false, 0, 10), (60, false, 0, 3), (61, false, 2, 3), (62, false, -69, 140), (64, false, 2, 3), (65, false, -93, 188), (66, false, 0, 18), (67, false, 2, 2), (68, false, 0, 31), (69, false, 0, 10), (70, false, 2, 3), (71, false, 0, 15), (72, false, 0, 15)])
set_option maxRecDepth 100000 in
theorem tz_c164_in : tz_c164 ∈ at_CM ++ at_CA := List.mem_of_getElem? (i := 172) rfl
def tz_c170 : at_C := (170, [.inl (0, some 0), .inr (false, -2147483648, 2147483647), .inr (false, -2147483648, 2147483647)], [], some (.inr (false, 0, 1)), false, [(49, false, 5, 16), (51, false, 6, 8), (52, false, 0, 29), (53, false, 0, 2), (54, false, 0, 23), (55, false, 0, 11), (56, false, 0, 47), (57, false, 0, 39), (58, false, 3, 6), (59, false, 0, 10), (60, false, 0, 3), (61, false, 2, 3), (62, false, -69, 140), (64, false, 2, 3), (65, false, -93, 188), (66, false, 0, 18), (67, false, 2, 2), (68, false, 0, 31), (69, false, 0, 10), (70, false, 2, 3), (71, false, 0, 15), (72, false, 0, 15)])
set_option maxRecDepth 100000 in
theorem tz_c170_in : tz_c170 ∈ at_CM ++ at_CA := List.mem_of_getElem? (i := 171) rfl
def tz_c315 : at_C := (315, [.inl (76, some 277), .inr (false, -99999, 99999), .inr (false, -2147483648, 2147483647)], [], some (.inr (false, 0, 1)), false, [(76, false, 4, 4), (76, false, 6, 7), (79, false, 2, 1419), (79, true, 1, 1), (79, true, 3, 4), (79, true, 7, 8), (79, true, 10, 60), (81, false, 0, 15), (82, false, 0, 1417)])
set_option maxRecDepth 100000 in
theorem tz_c315_in : tz_c315 ∈ at_CM ++ at_CA := List.mem_of_getElem? (i := 270) rfl
def tz_c316 : at_C := (316, [.inl (76, some 277), .inr (false, -2147483648, 2147483647), .inr (false, -2147483648, 2147483647)], [], some (.inr (false, -99900, 99900)), false, [(76, false, 4, 4), (76, false, 6, 7), (79, false, 2, 1419), (79, true, 1, 1), (79, true, 3, 4), (79, true, 7, 8), (79, true, 10, 60), (81, false, 0, 15), (82, false, 0, 1417)])
set_option maxRecDepth 100000 in
theorem tz_c316_in : tz_c316 ∈ at_CM ++ at_CA := List.mem_of_getElem? (i := 271) rfl
/-! ===== power, on both sides ===== -/
section P62
variable {L : Nat} {xs : Nat → Int32} {f g fc fr : t2_F} {l : t2_L} {v x a b : Int32} {n k : Nat}
/-- what the limits hang on -/
theorem r_limit_c {f' : t2_F} (h : ∀ w : Nat, (w = 2 ∨ w = 17 ∨ (34 ≤ w ∧ w ≤ 39) ∨ (67 ≤ w ∧ w < 79)) → f' 280 w = f 280 w) (hC : ∀ C w : Nat, (w = 0 ∨ w = 1 ∨ w = 3 ∨ w = 9) → f' 280 (444 + 61 * C + w) = f 280 (444 + 61 * C + w)) (hz : (f 280 17).toInt ≤ 6) : r_limitOf_v f' x = r_limitOf_v f x := by
  have own : ∀ C : Nat, r_limitBy_v f' (Int32.ofNat C) C x = r_limitBy_v f (Int32.ofNat C) C x := by
    intro C
    have a84 : ∀ k : Nat, k ≤ 6 → r_limitBy_a84 f' (Int32.ofNat C) C x k = r_limitBy_a84 f (Int32.ofNat C) C x k := by
      intro k
      induction k with
      | zero => intro _; rfl
      | succ k ih =>
        intro hk
        show (if (f' 280 (444 + 61 * C + 3)).toInt < (f' 280 (67 + (2 * k))).toInt then r_limitBy_a84 f' (Int32.ofNat C) C x k else f' 280 ((67 + (2 * k)) + 1)) = (if (f 280 (444 + 61 * C + 3)).toInt < (f 280 (67 + (2 * k))).toInt then r_limitBy_a84 f (Int32.ofNat C) C x k else f 280 ((67 + (2 * k)) + 1))
        rw [hC C 3 (by omega), h (67 + 2 * k) (by omega), h (67 + 2 * k + 1) (by omega), ih (by omega)]
    have z := a84 (f 280 17).toInt.toNat (by omega)
    unfold r_limitBy_v r_limitBy_j151_0 r_limitBy_j137_0 r_limitBy_j63_0 r_limitBy_j8_0 r_calmVolts_v r_partOf_v
    rw [h 17 (by omega), z, h 34 (by omega), h 35 (by omega), h 36 (by omega), h 37 (by omega), h 39 (by omega), hC C 0 (by omega), hC C 1 (by omega), hC C 3 (by omega), hC C 9 (by omega)]
  have a8 : ∀ k : Nat, r_limitOf_a8 f' x k = r_limitOf_a8 f x k := by
    intro k
    induction k with
    | zero => exact h 38 (by omega)
    | succ k ih =>
      show r_lesser_v (r_limitOf_a8 f' x k) (r_limitBy_v f' (Int32.ofNat k) k x) = r_lesser_v (r_limitOf_a8 f x k) (r_limitBy_v f (Int32.ofNat k) k x)
      rw [ih, own]
  unfold r_limitOf_v
  rw [h 2 (by omega), a8]
theorem r_limit_le : (r_limitOf_v f x).toInt ≤ (f 280 38).toInt := by
  have a8 : ∀ k : Nat, (r_limitOf_a8 f x k).toInt ≤ (f 280 38).toInt := by
    intro k
    induction k with
    | zero => exact Int.le_refl _
    | succ k ih =>
      show (r_lesser_v (r_limitOf_a8 f x k) (r_limitBy_v f (Int32.ofNat k) k x)).toInt ≤ _
      unfold r_lesser_v
      split <;> omega
  exact a8 _
/-- the first second's current -/
theorem c3_I.cur1 (h : c3_I fc fr) (ht : (fr 280 7).toInt < 9999) (nt : t3_nt fc) : r_psec_m fr 280 5 = (if (r_isLive_v (r_goBus_m (r_t1 fr))).toInt = 0 then (0 : Int32) else r_held_v (fr 280 54) (-(r_limitOf_v fr (1 : Int32))) (r_limitOf_v fr (0 : Int32))) := by
  obtain ⟨i1, i2, i3, i4, i5, i6, im, -, ⟨i8, -⟩, ik, -⟩ := h.chain ht nt
  have ok8 := i8.2.2.2.2
  have hh := i2
  obtain ⟨⟨⟨g5, g6, g7, g8⟩, -⟩, rs, gx, cl, ok⟩ := i2
  have hm0 : t2_lo 4 ≤ (r_goBus_m (r_t1 fr) 280 38).toInt ∧ (r_goBus_m (r_t1 fr) 280 38).toInt ≤ t2_hi 4 := ok.s (k := 4) (by decide)
  have l4 : t2_lo 4 = 1 := by decide
  have h4 : t2_hi 4 = 99999 := by decide
  obtain ⟨-, k2, -⟩ := c3_cur_eq hh.rl g7 gx.1.1 ok.2.2.1 (by omega)
  have e1 : r_goKept_m (r_goFaults_m (r_w6 fr)) 280 5 = r_goFaults_m (r_w6 fr) 280 5 := by
    unfold r_goKept_m
    exact r_goKept_f117_w ok8.2.1.2.2.1 (fun C hC => (ok8.2.2.2.2.2.2.2 C hC).1) ok8.2.2.2.2.2.2.1.2.2 (fun C hC => ⟨(ok8.2.2.2.2.2.2.2 C hC).2.2.2.2.2.2.2.1, (ok8.2.2.2.2.2.2.2 C hC).2.2.2.2.2.2.2.2.1⟩) (Nat.le_refl _) (Or.inl (by decide)) (by decide)
  have W : ∀ w : Nat, w ≠ 3 → w ≠ 4 → w ≠ 7 → r_goBus_m (r_t1 fr) 280 w = fr 280 w := fun w h3 h4 h7 => by
    rw [r_goBus_w2, if_neg h4, if_neg h3]
    unfold r_t1
    rw [fl_row_self, upd_ne h7]
  have lim : ∀ x : Int32, r_limitOf_v (r_goBus_m (r_t1 fr)) x = r_limitOf_v fr x := fun x => r_limit_c (fun w hw => W w (by omega) (by omega) (by omega)) (fun C w hw => W _ (by omega) (by omega) (by omega)) h.2.2.2.2.2.2.2.1.1.2
  unfold r_psec_m
  rw [e1, r_goFaults_w im.2.2.2.2.2.2.2.2.2.2.1.2.1 (by decide)]
  unfold r_w6
  rw [r_meas_mid (by decide), r_mid_lo (by decide) (by decide) (by decide)]
  unfold r_t5
  rw [fl_row_self, upd_ne (by decide), r_goBalance_w (by decide), r_cells_lo (by decide), k2]
  unfold r_goCurrent_j9_0
  rw [W 54 (by decide) (by decide) (by decide), lim, lim]
theorem c3_I.nn (h : c3_I fc fr) (ht : (fr 280 7).toInt < 9999) (nt : t3_nt fc) : 0 ≤ (r_psec_v fr).toInt := by
  obtain ⟨-, -, -, -, -, -, im, -⟩ := h.chain ht nt
  exact (r_flt_l (f := r_w6 fr) im.2.2.2.2.2.2.2.2.2.2.1.2.1 11 (Nat.le_refl 11)).2.1.1
/-- asked for so much, no taper, no rules -/
noncomputable def t3_H (g : t2_F) (v : Int32) : t2_F := fl_row (fl_row g 277 (upd (g 277) 7 (1 : Int32))) 280 (upd (g 280) 54 v)
noncomputable def t3_F (M : t2_F) (v : Int32) : t2_F := fl_row (fl_row M 183 (upd (M 183) 8 (0 : Int32))) 184 (upd (upd (M 184) 23 (0 : Int32)) 20 v)
theorem t3_H7 : t3_H g v 280 7 = g 280 7 := by
  unfold t3_H
  rw [fl_row_self, upd_ne (by decide)]
theorem t3_KK {M : t2_F} (K : c2_K M f) (hv : -99999 ≤ v.toInt ∧ v.toInt ≤ 99999) (g280 : ∀ w : Nat, 2 ≤ w → w < 1420 → g 280 w = f 280 w) (g279 : g 279 = f 279) : c3_K (t3_F M v) (t3_H g v) ∧ t3_nt (t3_F M v) := by
  have c0 : (0 : Int32).toInt = 0 := rfl
  have FP : ∀ p : Nat, p ≠ 183 → p ≠ 184 → t3_F M v p = M p := fun p h3 h4 => by unfold t3_F; rw [fl_row_ne h4, fl_row_ne h3]
  have F3 : t3_F M v 183 = upd (M 183) 8 (0 : Int32) := by unfold t3_F; rw [fl_row_ne (by decide), fl_row_self]
  have F4 : t3_F M v 184 = upd (upd (M 184) 23 (0 : Int32)) 20 v := by unfold t3_F; rw [fl_row_self]
  have H0 : ∀ w : Nat, w ≠ 54 → t3_H g v 280 w = g 280 w := fun w hw => by unfold t3_H; rw [fl_row_self, upd_ne hw]
  refine ⟨⟨c3_I.of2 K.1 hv (fun p _ _ h3 h4 => FP p h3 h4) (fun j hj => by rw [F3, upd_ne hj]) (by rw [F3, upd_self]; exact c0) (fun k h1 h2 => by rw [F4, upd_ne h1, upd_ne h2]) (by rw [F4, upd_self]) (fun w h1 h2 hw => by rw [H0 w hw, g280 w h1 h2]) (by unfold t3_H; rw [fl_row_self, upd_self]), K.2.1.congr (fun p hp => FP p (by omega) (by omega)), K.2.2.1.same ?_, ?_⟩, Or.inl ?_⟩
  · unfold t3_H
    rw [fl_row_ne (by decide), fl_row_ne (by decide), g279]
  · unfold t3_H
    rw [fl_row_ne (by decide), fl_row_self, upd_self]
  · rw [F4, upd_ne (by decide), upd_self, c0]
    exact Int.le_refl _
theorem t2_bsK (Z : t2_Z (f, l)) : c2_K (bs_m f 181 1) f := by
  have I : c0_I f f := Z.2.1
  have n := I.1.1.1
  obtain ⟨s1, s2, s3⟩ := (t2_B.of_now I).src (by decide)
  have S := bs_same (f := f) (p := 181) (q := 1) (by omega) s1
  have A : t2_blk (l.2) 181 48 := t2_blk_trial
  have a12 := A.place 12 61 (by decide) (by decide +kernel)
  have a15 := A.place 15 64 (by decide) (by decide +kernel)
  have w12 : f 193 0 = (24 : Int32) := t2_Good.k1 Z.1 (j := 0) a12.2 a12.1 (by decide +kernel)
  have w15 : f 196 0 = (32 : Int32) := t2_Good.k1 Z.1 (j := 0) a15.2 a15.1 (by decide +kernel)
  have I2 : c2_I (bs_m f 181 1) f := c2_I.of0 I (by rw [← n]; exact S.1) (S.2.1.trans w12) (S.2.2.trans w15)
  have J0 : c0_J f := t2_Good.J Z.1
  have J2 : c2_J f := t2_Good.J2 Z.1
  obtain ⟨-, ⟨-, -, -, -, -, -, e8⟩, -, -, ec, -⟩ := S.1
  refine ⟨I2, ⟨fun i hi k hk => ?_, fun k hk => ?_⟩, t2_Good.RS Z.1, Z.2.2.2.2⟩
  · by_cases h : i < (f 1 5).toInt.toNat
    · obtain ⟨-, -, h3, -⟩ := ec i h
      have e : bs_m f 181 1 (181 + (17 + 4 * i + 2)) k = f (1 + (17 + 4 * i + 2)) k := h3 k hk
      rw [show 181 + (17 + 4 * i + 2) = 200 + 4 * i by omega, show 1 + (17 + 4 * i + 2) = 20 + 4 * i by omega] at e
      show t2_pt (bs_m f 181 1 (200 + 4 * i) k)
      rw [e]
      exact J0.1 i hi k hk
    · have e : bs_m f 181 1 (200 + 4 * i) = f (200 + 4 * i) := bs_out s1 (by omega) (by omega)
      show t2_pt (bs_m f 181 1 (200 + 4 * i) k)
      rw [e]
      exact J2.1 i hi k hk
  · have e : bs_m f 181 1 189 (k * 5 + 3) = f 9 (k * 5 + 3) := e8 _ (by omega)
    rw [e]
    exact J0.2 k hk
/-- it doesn't go so in that second -/
noncomputable def t3_no (f : t2_F) (v : Int32) (s : Nat) : Bool := !(decide ((r_psec_v (r_prunN (t3_H f v) s)).toInt = 0) && decide ((r_prunN (t3_H f v) (s + 1) 280 5).toInt = v.toInt))
noncomputable def t3_b (f : t2_F) (v : Int32) (n : Nat) : Int32 := if t2_fst (t3_no f v) n < n then (0 : Int32) else (1 : Int32)
theorem t3_b01 : t3_b f v n = 0 ∨ t3_b f v n = 1 := by
  unfold t3_b
  split
  · exact Or.inl rfl
  · exact Or.inr rfl
theorem t3_no_f {s : Nat} (h : t3_no f v s = false) : (r_psec_v (r_prunN (t3_H f v) s)).toInt = 0 ∧ (r_prunN (t3_H f v) (s + 1) 280 5).toInt = v.toInt := by
  unfold t3_no at h
  rw [Bool.not_eq_false', Bool.and_eq_true, decide_eq_true_eq, decide_eq_true_eq] at h
  exact h
theorem t3_no_t {s : Nat} (h : t3_no f v s = true) : ¬ ((r_psec_v (r_prunN (t3_H f v) s)).toInt = 0 ∧ (r_prunN (t3_H f v) (s + 1) 280 5).toInt = v.toInt) := by
  unfold t3_no at h
  intro q
  rw [decide_eq_true q.1, decide_eq_true q.2] at h
  cases h
theorem t2_keepZ {c1 : at_C} {ac : List fl_V} {mc : Nat} {R : Option fl_V → Prop} (hv1 : at_Valid at_XI (pw_P L xs) c1) (e1 : c1.1 = mc) (Z : t2_Z (g, l)) (k1 : at_agk l.2 c1.2.1 ac) (l1 : c1.2.2.1 = []) (F : fl_Tq (pw_P L xs) mc 0 (fl_args (am_mxl (pw_P L xs) mc) ac) [] (g, l) (fun v m => ∃ G : t2_F, m = (G, l) ∧ (∀ p : Nat, p < 181 ∨ 271 ≤ p → G p = g p) ∧ R v)) : fl_Tq (pw_P L xs) mc 0 (fl_args (am_mxl (pw_P L xs) mc) ac) [] (g, l) (fun v m => ∃ G : t2_F, m = (G, l) ∧ t2_Z (G, l) ∧ (∀ p : Nat, p < 181 ∨ 271 ≤ p → G p = g p) ∧ R v) := by
  subst e1
  refine fl_Tq.mono (t2_join F (hv1 (g, l) ac Z.1 k1 (fun q hq => by rw [l1] at hq; cases hq))) ?_
  rintro v m1 ⟨⟨G, rfl, fr, r⟩, v2, m2, -, e2, g2, -, -⟩
  have U : t2_U (G, l) := fun p hp i => by
    have hp : fl_N l.2 ≤ p := hp
    have h285 : 285 ≤ fl_N l.2 := by unfold fl_N; omega
    show G p i = _
    rw [fr p (by omega)]
    exact Z.U p hp i
  have g1 : at_Good at_XI (G, l) := t2_Good e2 g2 U
  exact ⟨G, rfl, ⟨g1, Z.2.ext (fun p hp => fr p (by omega)) (fun w _ => by show G 280 w = g 280 w; rw [fr 280 (by decide)]) (fun w _ => by show G 281 w = g 281 w; rw [fr 281 (by decide)]) (by show G 277 7 = g 277 7; rw [fr 277 (by decide)])⟩, fr, r⟩
/-- bears -/
theorem x_bears_q (hall : ∀ c ∈ at_CM ++ at_CA, at_Valid at_XI (pw_P L xs) c) (Z : t2_Z (g, l)) (gf : ∀ p : Nat, p < 181 ∨ 271 ≤ p → g p = f p) (hv : -99999 ≤ v.toInt ∧ v.toInt ≤ 99999) (hb : b.toInt = n) (hT : (f 280 7).toInt + n ≤ 9999) : fl_Tq (pw_P L xs) 170 0 (fl_args (am_mxl (pw_P L xs) 170) [lx_x, .inl v, .inl b]) [] (g, l) (fun r m => ∃ G : t2_F, m = (G, l) ∧ t2_Z (G, l) ∧ (∀ p : Nat, p < 181 ∨ 271 ≤ p → G p = g p) ∧ r = some (.inl (t3_b f v n))) := by
  refine t2_keepZ (R := fun r => r = some (.inl (t3_b f v n))) (hall _ tz_c170_in) rfl Z ⟨lx_kx _, lx_ki _, lx_ki _, True.intro⟩ rfl ?_
  show fl_Tq (pw_P L xs) 170 0 [some (.inr (.inr (.inl (0, 0)))), some (.inl v), some (.inl b), none] [] (g, l) _
  refine x_be_A ?_
  refine fl_Tq.cal rfl rfl (fl_bo rfl) rfl ?_
  refine t2_begun Z (fun M mf K => ?_)
  refine x_be_B ?_
  have f7 : 0 ≤ (f 280 7).toInt := by
    have h := Z.2.1.2.2.2.2.2.1.2.2.2.1
    rw [← gf 280 (by decide)]
    exact h
  obtain ⟨KH, nt⟩ := t3_KK (g := f) K hv (fun w _ _ => by rw [gf 280 (by decide)]) (by rw [gf 279 (by decide)])
  show fl_Tq (pw_P L xs) 170 52 [some (.inr (.inr (.inl (0, 0)))), some (.inl v), some (.inl b), some (.inl (Int32.ofNat 0))] [] (t3_F M v, l) _
  have FP : ∀ p : Nat, p < 181 ∨ 271 ≤ p → t3_F M v p = g p := fun p hp => by unfold t3_F; rw [fl_row_ne (by omega), fl_row_ne (by omega), mf p hp]
  generalize t3_F M v = F at KH nt FP ⊢
  have RUN : ∀ k : Nat, k ≤ n → c3_K (c2_runN F k) (r_prunN (t3_H f v) k) ∧ (r_prunN (t3_H f v) k 280 7).toInt = (f 280 7).toInt + k ∧ t3_nt (c2_runN F k) ∧ ∀ p : Nat, p < 181 ∨ 271 ≤ p → c2_runN F k p = g p := fun k hk => by
    have r := KH.run nt k (by rw [t3_H7]; omega)
    rw [t3_H7] at r
    exact ⟨r.1, r.2.1, nt.same r.2.2.1, fun p hp => by rw [r.2.2.2 p hp, FP p hp]⟩
  have c0 : (0 : Int32).toInt = 0 := rfl
  obtain ⟨F0, F1⟩ := t2_fst_p (t3_no f v) n
  have FL := t2_fst_le (t3_no f v) n
  unfold t3_b
  generalize t2_fst (t3_no f v) n = N at F0 F1 FL
  refine t2_for (n := N) (S := fun j => fl_Tq (pw_P L xs) 170 52 [some (.inr (.inr (.inl (0, 0)))), some (.inl v), some (.inl b), some (.inl (Int32.ofNat j))] [] (c2_runN F j, l) _) (fun j hj hS => ?_) ?_
  · have ej : (Int32.ofNat j).toInt = j := at_ofN (by have := at_i32 b; omega)
    obtain ⟨K1, t, ntj, -⟩ := RUN j (by omega)
    obtain ⟨K2, -⟩ := RUN (j + 1) (by omega)
    obtain ⟨z1, z2⟩ := t3_no_f (F0 j hj)
    refine x_be_C (fun _ => ?_) (fun h => absurd (by rw [ej, hb]; omega) h)
    refine fl_Tq.cal rfl rfl (fl_bo rfl) rfl ?_
    refine c3_sec_q K1.1 (by rw [t]; omega) ntj K1.2.1 ?_
    have ez := K1.sec (by rw [t]; omega) ntj
    have w5 : c2_runN F (j + 1) 181 9 = r_prunN (t3_H f v) (j + 1) 280 5 := K2.1.1.2.1.1
    refine x_be_D (fun h => absurd h (by rw [ez]; omega)) (fun _ _ => ?_) (fun _ h => absurd (by show (c2_runN F (j + 1) 181 9).toInt = _; rw [w5]; exact z2) h)
    rw [t2_k1]
    exact hS
  · have eN : (Int32.ofNat N).toInt = N := at_ofN (by have := at_i32 b; omega)
    obtain ⟨K1, t, ntj, PN⟩ := RUN N FL
    refine x_be_C (fun h => ?_) (fun h => ?_)
    · rw [eN, hb] at h
      have hN : N < n := by omega
      obtain ⟨K2, -, -, PM⟩ := RUN (N + 1) hN
      have z := t3_no_t (F1 hN)
      rw [if_pos hN]
      refine fl_Tq.cal rfl rfl (fl_bo rfl) rfl ?_
      refine c3_sec_q K1.1 (by rw [t]; omega) ntj K1.2.1 ?_
      have ez := K1.sec (by rw [t]; omega) ntj
      have nn := K1.1.nn (by rw [t]; omega) ntj
      have w5 : c2_runN F (N + 1) 181 9 = r_prunN (t3_H f v) (N + 1) 280 5 := K2.1.1.2.1.1
      refine x_be_D (fun _ => ⟨_, rfl, PM, rfl⟩) (fun h1 h2 => ?_) (fun _ _ => ⟨_, rfl, PM, rfl⟩)
      refine absurd ?_ z
      rw [ez] at h1
      have h2 : (c2_runN F (N + 1) 181 9).toInt = v.toInt := h2
      rw [w5] at h2
      exact ⟨by omega, h2⟩
    · rw [eN, hb] at h
      rw [if_neg (by omega)]
      exact ⟨_, rfl, PN, rfl⟩
theorem r_prunN_p {p : Nat} (h280 : p ≠ 280) (h277 : p ≠ 277) (h282 : p ≠ 282) : ∀ k : Nat, r_prunN f k p = f p := by
  intro k
  induction k with
  | zero => rfl
  | succ k ih =>
    show r_psec_m (r_prunN f k) p = _
    rw [r_psec_p h280 h277 h282, ih]
/-- goesBy -/
theorem y_goes_q (Z : t2_Z (f, l)) (g280 : ∀ w : Nat, 2 ≤ w → w < 1420 → g 280 w = f 280 w) (g279 : g 279 = f 279) (hv : -99999 ≤ v.toInt ∧ v.toInt ≤ 99999) (hb : b.toInt = n) (hT : (f 280 7).toInt + n ≤ 9999) : fl_Tq (pw_P L xs) 315 0 (fl_args (am_mxl (pw_P L xs) 315) [at_this, .inl v, .inl b]) [] (g, l) (fun r m => ∃ G : t2_F, m = (G, l) ∧ (∀ w : Nat, 2 ≤ w → w < 1420 → G 280 w = f 280 w) ∧ G 279 = f 279 ∧ r = some (.inl (t3_b f v n))) := by
  show fl_Tq (pw_P L xs) 315 0 [some (.inr (.inr (.inl (76, 277)))), some (.inl v), some (.inl b), none, none] [] (g, l) _
  refine z315_A ?_
  refine fl_Tq.cal rfl rfl (fl_bo rfl) rfl ?_
  refine r_putAside_q (m := (g, l)) (fun h hp hc => ?_)
  have hp : ∀ p : Nat, p ≠ 283 → h p = g p := hp
  have hc : ∀ j : Nat, j < 1418 → h 283 j = g 280 (2 + j) := hc
  refine z315_B ?_
  have f7 : 0 ≤ (f 280 7).toInt := Z.2.1.2.2.2.2.2.1.2.2.2.1
  have c0 : (0 : Int32).toInt = 0 := rfl
  have c1 : (1 : Int32).toInt = 1 := by decide +kernel
  have K := t2_bsK Z
  obtain ⟨KF, nt⟩ := t3_KK (g := f) K hv (fun w _ _ => rfl) rfl
  obtain ⟨KH, -⟩ := t3_KK (g := h) K hv (fun w h1 h2 => by rw [hp 280 (by decide), g280 w h1 h2]) (by rw [hp 279 (by decide), g279])
  generalize t3_F (bs_m f 181 1) v = F at KF KH nt
  have h7 : t3_H h v 280 7 = f 280 7 := by rw [t3_H7, hp 280 (by decide), g280 7 (by decide) (by decide)]
  show fl_Tq (pw_P L xs) 315 22 [some (.inr (.inr (.inl (76, 277)))), some (.inl v), some (.inl b), some (.inl (1 : Int32)), some (.inl (Int32.ofNat 0))] [] (t3_H h v, l) _
  have H283 : t3_H h v 283 = h 283 := by unfold t3_H; rw [fl_row_ne (by decide), fl_row_ne (by decide)]
  have H279 : t3_H h v 279 = f 279 := by unfold t3_H; rw [fl_row_ne (by decide), fl_row_ne (by decide), hp 279 (by decide), g279]
  generalize t3_H h v = H at KH h7 H283 H279 ⊢
  have RUN : ∀ k : Nat, k ≤ n → c3_K (c2_runN F k) (r_prunN H k) ∧ (r_prunN H k 280 7).toInt = (f 280 7).toInt + k ∧ t3_nt (c2_runN F k) ∧ (k < n → r_psec_v (r_prunN H k) = r_psec_v (r_prunN (t3_H f v) k)) ∧ r_prunN H k 280 5 = r_prunN (t3_H f v) k 280 5 := fun k hk => by
    have r := KH.run nt k (by rw [h7]; omega)
    have q := KF.run nt k (by rw [t3_H7]; omega)
    rw [h7] at r
    rw [t3_H7] at q
    have ntk := nt.same r.2.2.1
    refine ⟨r.1, r.2.1, ntk, fun hk2 => ?_, ?_⟩
    · rw [← r.1.sec (by rw [r.2.1]; omega) ntk, q.1.sec (by rw [q.2.1]; omega) ntk]
    · have e1 : c2_runN F k 181 9 = r_prunN H k 280 5 := r.1.1.1.2.1.1
      have e2 : c2_runN F k 181 9 = r_prunN (t3_H f v) k 280 5 := q.1.1.1.2.1.1
      rw [← e1, e2]
  have fin : ∀ (J : Nat) (c d : Int32), c = t3_b f v n → fl_Tq (pw_P L xs) 315 67 [some (.inr (.inr (.inl (76, 277)))), some (.inl v), some (.inl b), some (.inl c), some (.inl d)] [.inr (.inr (.inl (76, 277)))] (fl_row (r_prunN H J) 277 (upd (r_prunN H J 277) 7 (0 : Int32)), l) (fun r m => ∃ G : t2_F, m = (G, l) ∧ (∀ w : Nat, 2 ≤ w → w < 1420 → G 280 w = f 280 w) ∧ G 279 = f 279 ∧ r = some (.inl (t3_b f v n))) := by
    intro J c d hcc
    refine fl_Tq.cal rfl rfl (fl_bo rfl) rfl ?_
    refine r_bringBack_q (m := (fl_row (r_prunN H J) 277 (upd (r_prunN H J 277) 7 (0 : Int32)), l)) (fun g2 a1 _ a3 => ?_)
    have a1 : ∀ p : Nat, p ≠ 280 → g2 p = fl_row (r_prunN H J) 277 (upd (r_prunN H J 277) 7 (0 : Int32)) p := a1
    have a3 : ∀ j : Nat, j < 1418 → g2 280 (2 + j) = fl_row (r_prunN H J) 277 (upd (r_prunN H J 277) 7 (0 : Int32)) 283 j := a3
    refine y_gb_E (by rw [hcc]; exact t3_b01) ⟨g2, rfl, fun w h1 h2 => ?_, ?_, by rw [hcc]⟩
    · have := a3 (w - 2) (by omega)
      rw [show 2 + (w - 2) = w by omega] at this
      rw [this, fl_row_ne (by decide), r_prunN_p (by decide) (by decide) (by decide), H283, hc _ (by omega), show 2 + (w - 2) = w by omega, g280 w h1 h2]
    · rw [a1 279 (by decide), fl_row_ne (by decide), r_prunN_p (by decide) (by decide) (by decide), H279]
  obtain ⟨F0, F1⟩ := t2_fst_p (t3_no f v) n
  have FL := t2_fst_le (t3_no f v) n
  have eb : t3_b f v n = if t2_fst (t3_no f v) n < n then (0 : Int32) else (1 : Int32) := rfl
  generalize t2_fst (t3_no f v) n = N at F0 F1 FL eb
  refine t2_for (n := N) (S := fun j => fl_Tq (pw_P L xs) 315 22 [some (.inr (.inr (.inl (76, 277)))), some (.inl v), some (.inl b), some (.inl (1 : Int32)), some (.inl (Int32.ofNat j))] [] (r_prunN H j, l) _) (fun j hj hS => ?_) ?_
  · have ej : (Int32.ofNat j).toInt = j := at_ofN (by have := at_i32 b; omega)
    obtain ⟨K1, t, ntj, ev, -⟩ := RUN j (by omega)
    obtain ⟨-, -, -, -, e5⟩ := RUN (j + 1) (by omega)
    obtain ⟨z1, z2⟩ := t3_no_f (F0 j hj)
    refine z315_C (fun _ h => absurd h (by rw [c1]; decide)) (fun _ _ => ?_) (fun h => absurd (by rw [ej, hb]; omega) h)
    refine fl_Tq.cal rfl rfl (fl_bo rfl) rfl ?_
    refine c3_rsec_q K1.1 (by rw [t]; omega) ntj K1.2.2.1 K1.2.2.2 ?_
    refine z315_D ?_
    rw [t2_k1]
    have ec : z315_D_j36_0 (r_psec_m (r_prunN H j)) v b (1 : Int32) (r_psec_v (r_prunN H j)) j = (1 : Int32) := by
      have w5 : r_psec_m (r_prunN H j) 280 5 = r_prunN (t3_H f v) (j + 1) 280 5 := e5
      unfold z315_D_j36_0
      rw [ev (by omega), if_pos z1, w5, if_pos z2]
    rw [ec]
    exact hS
  · have eN : (Int32.ofNat N).toInt = N := at_ofN (by have := at_i32 b; omega)
    obtain ⟨K1, t, ntj, ev, -⟩ := RUN N FL
    refine z315_C (fun _ h => absurd h (by rw [c1]; decide)) (fun h _ => ?_) (fun h => fin N _ _ (by rw [eN, hb] at h; rw [eb, if_neg (by omega)]))
    rw [eN, hb] at h
    have hN : N < n := by omega
    obtain ⟨-, -, -, -, e5⟩ := RUN (N + 1) hN
    have z := t3_no_t (F1 hN)
    refine fl_Tq.cal rfl rfl (fl_bo rfl) rfl ?_
    refine c3_rsec_q K1.1 (by rw [t]; omega) ntj K1.2.2.1 K1.2.2.2 ?_
    refine z315_D ?_
    rw [t2_k1]
    have ec : z315_D_j36_0 (r_psec_m (r_prunN H N)) v b (1 : Int32) (r_psec_v (r_prunN H N)) N = (0 : Int32) := by
      have w5 : r_psec_m (r_prunN H N) 280 5 = r_prunN (t3_H f v) (N + 1) 280 5 := e5
      unfold z315_D_j36_0
      rw [ev hN, w5]
      by_cases y1 : (r_psec_v (r_prunN (t3_H f v) N)).toInt = 0
      · rw [if_pos y1, if_neg (fun y2 => z ⟨y1, y2⟩)]
      · rw [if_neg y1]
    rw [ec]
    have e0 : (0 : Int32) = t3_b f v n := by rw [eb, if_pos hN]
    refine z315_C (f := r_prunN H (N + 1)) (fun _ _ => fin (N + 1) _ _ e0) (fun _ h => absurd c0 h) (fun _ => fin (N + 1) _ _ e0)
/-- none beyond the limit -/
theorem t3_beyond (Z : t2_Z (f, l)) (hv : -99999 ≤ v.toInt ∧ v.toInt ≤ 99999) (hT : (f 280 7).toInt + n ≤ 9999) (hn : 1 ≤ n) (l0 : 0 ≤ (r_limitOf_v f (0 : Int32)).toInt ∧ (r_limitOf_v f (0 : Int32)).toInt ≤ 99999) (l1 : 0 ≤ (r_limitOf_v f (1 : Int32)).toInt ∧ (r_limitOf_v f (1 : Int32)).toInt ≤ 99999) (h : (r_limitOf_v f (0 : Int32)).toInt < v.toInt ∨ v.toInt < -(r_limitOf_v f (1 : Int32)).toInt) : t3_b f v n = 0 := by
  have c0 : (0 : Int32).toInt = 0 := rfl
  have f7 : 0 ≤ (f 280 7).toInt := Z.2.1.2.2.2.2.2.1.2.2.2.1
  obtain ⟨KF, nt⟩ := t3_KK (g := f) (t2_bsK Z) hv (fun w _ _ => rfl) rfl
  have e := KF.1.cur1 (by rw [t3_H7]; omega) nt
  have H54 : t3_H f v 280 54 = v := by unfold t3_H; rw [fl_row_self, upd_self]
  have z6 : (f 280 17).toInt ≤ 6 := Z.2.1.2.2.2.2.2.2.2.1.1.2
  have lim : ∀ x : Int32, r_limitOf_v (t3_H f v) x = r_limitOf_v f x := fun x => r_limit_c (fun w hw => by unfold t3_H; rw [fl_row_self, upd_ne (by omega)]) (fun C w hw => by unfold t3_H; rw [fl_row_self, upd_ne (by omega)]) z6
  rw [H54, lim, lim] at e
  have ne : ¬ (r_psec_m (t3_H f v) 280 5).toInt = v.toInt := by
    rw [e]
    split
    · rw [c0]
      omega
    · have nl : (-(r_limitOf_v f (1 : Int32))).toInt = -(r_limitOf_v f (1 : Int32)).toInt := by rw [Int32.toInt_neg, Int.bmod_eq_of_le (by omega) (by omega)]
      unfold r_held_v
      split
      · omega
      · split <;> omega
  obtain ⟨F0, F1⟩ := t2_fst_p (t3_no f v) n
  unfold t3_b
  by_cases hN : t2_fst (t3_no f v) n < n
  · rw [if_pos hN]
  · have := F0 0 (by omega)
    exact absurd (t3_no_f this).2 ne
theorem t2_cmp_62 (hall : ∀ c ∈ at_CM ++ at_CA, at_Valid at_XI (pw_P L xs) c) (hg : t2_Z (f, l)) : fl_Tq (pw_P L xs) 164 0 (fl_args (am_mxl (pw_P L xs) 164) [lx_x, .inl a, .inl b]) [] (f, l) (t2_End L xs 316 [at_this, .inl a, .inl b]) := by
  have I : c0_I f f := hg.2.1
  have c0 : (0 : Int32).toInt = 0 := rfl
  have c1 : (1 : Int32).toInt = 1 := by decide +kernel
  have cm : (-1 : Int32).toInt = -1 := by decide +kernel
  have c2 : (2 : Int32).toInt = 2 := by decide +kernel
  have c60 : (60 : Int32).toInt = 60 := by decide +kernel
  have c9 : (9999 : Int32).toInt = 9999 := by decide +kernel
  have c100 : (100 : Int32).toInt = 100 := by decide +kernel
  have cm100 : (-100 : Int32).toInt = -100 := by decide +kernel
  have e6 : f 1 6 = f 280 7 := I.1.1.2.1
  have e7 : f 1 7 = f 280 3 := I.1.1.2.2.1
  have t7 : 0 ≤ (f 280 7).toInt ∧ (f 280 7).toInt ≤ 9999 := I.2.2.2.2.2.1.2.2.2
  have hz : 0 ≤ (f 280 17).toInt ∧ (f 280 17).toInt ≤ 6 := I.2.2.2.2.2.2.2.1.1
  have z6 : f 3 6 = f 280 17 := I.2.2.1.1.2.1.1
  have ea : (1 ≤ b.toInt ∧ b.toInt ≤ 60) → ((f 280 7) + b).toInt = (f 280 7).toInt + b.toInt := fun h => at_add32 (by omega) (by omega)
  refine t2_trial (hall _ tz_c164_in) rfl hg ⟨lx_kx _, lx_ki _, lx_ki _, True.intro⟩ rfl (fun m Z => t2_acall (hall _ tz_c316_in) rfl Z ⟨at_k277 _, lx_ki _, lx_ki _, True.intro⟩ rfl rfl rfl (t2_z316 hall Z.1 Z.2.2.2.2)) ?_
  show fl_Tq (pw_P L xs) 164 0 [some (.inr (.inr (.inl (0, 0)))), some (.inl a), some (.inl b), none, none, none] [] (f, l) _
  have no : ¬ (((0 ≤ a.toInt ∧ a.toInt ≤ 1) ∧ ((1 ≤ b.toInt ∧ b.toInt ≤ 60) ∧ (f 280 7).toInt + b.toInt ≤ 9999)) ∧ (f 280 3).toInt = 2) → ∃ (G : t2_F) (y : Int32), (some (.inl (-1 : Int32)) : Option fl_V) = some (.inl y) ∧ ((f, l) : fl_M) = (G, l) ∧ (∀ p : Nat, p < 181 ∨ 271 ≤ p → G p = f p) ∧ fl_Tq (pw_P L xs) 316 0 (fl_args (am_mxl (pw_P L xs) 316) [at_this, .inl a, .inl b]) [] (G, l) (fun v2 _ => v2 = some (.inl y)) := fun hn => by
    refine ⟨f, _, rfl, rfl, fun p _ => rfl, ?_⟩
    show fl_Tq (pw_P L xs) 316 0 [some (.inr (.inr (.inl (76, 277)))), some (.inl a), some (.inl b), none] [] (f, l) _
    refine z316_A (fun _ => rfl) (fun h => ?_)
    rw [r_i0, Classical.not_not, c0, c1] at h
    refine fl_Tq.cal rfl rfl (fl_bo rfl) rfl ?_
    refine r_canRun_q ?_
    refine z316_B (fun _ => rfl) (fun h1 h2 => ?_) (fun _ _ => rfl)
    rw [t2_can t7 (by omega), Classical.not_not, c60] at h1
    rw [c2] at h2
    exact absurd ⟨⟨h, h1⟩, h2⟩ hn
  have fits : (if (t2_within_v a (0 : Int32) (1 : Int32)).toInt = 0 then (0 : Int32) else (if (t2_within_v b (1 : Int32) (60 : Int32)).toInt = 0 then (0 : Int32) else (1 : Int32))).toInt = 0 ↔ ¬ ((0 ≤ a.toInt ∧ a.toInt ≤ 1) ∧ (1 ≤ b.toInt ∧ b.toInt ≤ 60)) := by
    by_cases h1 : (t2_within_v a (0 : Int32) (1 : Int32)).toInt = 0
    · rw [if_pos h1]
      rw [t2_w0, c0, c1] at h1
      exact ⟨fun _ h => h1 h.1, fun _ => c0⟩
    · rw [if_neg h1]
      rw [t2_w0, c0, c1, Classical.not_not] at h1
      by_cases h2 : (t2_within_v b (1 : Int32) (60 : Int32)).toInt = 0
      · rw [if_pos h2]
        rw [t2_w0, c1, c60] at h2
        exact ⟨fun _ h => h2 h.2, fun _ => c0⟩
      · rw [if_neg h2, c1]
        rw [t2_w0, c1, c60, Classical.not_not] at h2
        exact ⟨fun h => absurd h (by decide), fun h => absurd ⟨h1, h2⟩ h⟩
  refine x_po_A (fun h1 => no (fun h => fits.mp h1 ⟨h.1.1, h.1.2.1⟩)) (fun h1 _ h3 => no (fun h => ?_)) (fun h1 h2 h3 => ?_) (fun _ h2 => no (fun h => h2 (by rw [e7, c2]; exact h.2)))
  · rw [e6, ea h.1.2.1, c9] at h3
    omega
  rw [fits, Classical.not_not] at h1
  obtain ⟨va, vb⟩ := h1
  rw [e7, c2] at h2
  rw [e6, ea vb, c9] at h3
  have vT : (f 280 7).toInt + b.toInt ≤ 9999 := by omega
  generalize (if (t2_within_v a (0 : Int32) (1 : Int32)).toInt = 0 then (0 : Int32) else (if (t2_within_v b (1 : Int32) (60 : Int32)).toInt = 0 then (0 : Int32) else (1 : Int32))) = fi
  obtain ⟨n, hn⟩ : ∃ n : Nat, b.toInt = (n : Int) := ⟨b.toInt.toNat, by omega⟩
  have hm0 : t2_lo 4 ≤ (f 280 38).toInt ∧ (f 280 38).toInt ≤ t2_hi 4 := I.2.2.2.2.s (k := 4) (by decide)
  have l4 : t2_lo 4 = 1 := by decide
  have h4 : t2_hi 4 = 99999 := by decide
  have lnn : ∀ x : Int32, 0 ≤ (r_limitOf_v f x).toInt ∧ (r_limitOf_v f x).toInt ≤ 99999 := fun x => I.rl.lim_nn (by omega)
  have lle : (r_limitOf_v f a).toInt ≤ (f 280 38).toInt := r_limit_le
  have la := lnn a
  refine fl_Tq.cal rfl rfl (fl_bo rfl) rfl ?_
  refine c0_limitOf_q I.hc (by rw [z6]; exact hz) ?_
  refine x_po_B ?_
  have el : c0_limitOf_v f a = r_limitOf_v f a := I.rl.limit
  rw [el]
  -- sizes by hundreds
  obtain ⟨q, hq⟩ : ∃ q : Nat, (q : Int) = (r_limitOf_v f a).toInt / 100 := ⟨((r_limitOf_v f a).toInt / 100).toNat, by omega⟩
  obtain ⟨Q, hQ⟩ : ∃ Q : Nat, (Q : Int) = (f 280 38).toInt / 100 := ⟨((f 280 38).toInt / 100).toNat, by omega⟩
  have qQ : q ≤ Q := by omega
  have Qb : Q ≤ 999 := by omega
  have hund : ∀ z : Int32, ∀ m : Nat, 0 ≤ z.toInt → z.toInt ≤ 99999 → (m : Int) = z.toInt / 100 → (z / (100 : Int32)) * (100 : Int32) = Int32.ofNat (100 * m) := fun z m z0 z1 hm => by
    have d : (z / (100 : Int32)).toInt = z.toInt / 100 := by rw [at_div32 (by omega) (by omega), c100]
    refine Int32.toInt.inj ?_
    rw [at_mul32 (by rw [d, c100]; omega) (by rw [d, c100]; omega), d, c100, at_ofN (by omega)]
    omega
  have down : ∀ m : Nat, 1 ≤ m → m ≤ 999 → Int32.ofNat (100 * m) + (-100 : Int32) = Int32.ofNat (100 * (m - 1)) := fun m h1 h2 => by
    have e1 := at_ofN (k := 100 * m) (by omega)
    refine Int32.toInt.inj ?_
    rw [at_add32 (by rw [e1, cm100]; omega) (by rw [e1, cm100]; omega), e1, cm100, at_ofN (by omega)]
    omega
  rw [hund _ q (by omega) (by omega) hq]
  have vv : ∀ m : Nat, m ≤ 999 → (if a.toInt = 0 then (1 : Int32) else (-1 : Int32)) * Int32.ofNat (100 * m) = (if a.toInt = 0 then Int32.ofNat (100 * m) else -(Int32.ofNat (100 * m))) := fun m hm => by
    have e1 := at_ofN (k := 100 * m) (by omega)
    by_cases h : a.toInt = 0
    · rw [if_pos h, if_pos h]
      refine Int32.toInt.inj ?_
      rw [at_mul32 (by rw [e1, c1]; omega) (by rw [e1, c1]; omega), c1, Int.one_mul]
    · rw [if_neg h, if_neg h]
      refine Int32.toInt.inj ?_
      rw [at_mul32 (by rw [e1, cm]; omega) (by rw [e1, cm]; omega), cm, Int32.toInt_neg, Int.bmod_eq_of_le (by omega) (by omega)]
      omega
  have vb2 : ∀ m : Nat, m ≤ 999 → (if a.toInt = 0 then Int32.ofNat (100 * m) else -(Int32.ofNat (100 * m))).toInt = (if a.toInt = 0 then (100 * m : Int) else -(100 * m : Int)) := fun m hm => by
    have e1 := at_ofN (k := 100 * m) (by omega)
    by_cases h : a.toInt = 0
    · rw [if_pos h, if_pos h, e1]
      omega
    · rw [if_neg h, if_neg h, Int32.toInt_neg, Int.bmod_eq_of_le (by omega) (by omega), e1]
      omega
  have vr : ∀ m : Nat, m ≤ 999 → -99999 ≤ (if a.toInt = 0 then Int32.ofNat (100 * m) else -(Int32.ofNat (100 * m))).toInt ∧ (if a.toInt = 0 then Int32.ofNat (100 * m) else -(Int32.ofNat (100 * m))).toInt ≤ 99999 := fun m hm => by
    rw [vb2 m hm]
    split <;> omega
  have far : ∀ m : Nat, q < m → m ≤ 999 → t3_b f (if a.toInt = 0 then Int32.ofNat (100 * m) else -(Int32.ofNat (100 * m))) n = 0 := fun m h1 h2 => by
    refine t3_beyond hg (vr m h2) (by omega) (by omega) (lnn _) (lnn _) ?_
    rw [vb2 m h2]
    by_cases h : a.toInt = 0
    · have : a = (0 : Int32) := Int32.toInt.inj (by rw [h, c0])
      rw [this] at hq
      rw [if_pos h]
      exact Or.inl (by omega)
    · have : a = (1 : Int32) := Int32.toInt.inj (by rw [c1]; omega)
      rw [this] at hq
      rw [if_neg h]
      exact Or.inr (by omega)
  -- the first size that is borne
  obtain ⟨F0, F1⟩ := t2_fst_p (fun k => decide (¬ (t3_b f (if a.toInt = 0 then Int32.ofNat (100 * (q - k)) else -(Int32.ofNat (100 * (q - k)))) n).toInt = 0)) q
  have FL := t2_fst_le (fun k => decide (¬ (t3_b f (if a.toInt = 0 then Int32.ofNat (100 * (q - k)) else -(Int32.ofNat (100 * (q - k)))) n).toInt = 0)) q
  generalize t2_fst (fun k => decide (¬ (t3_b f (if a.toInt = 0 then Int32.ofNat (100 * (q - k)) else -(Int32.ofNat (100 * (q - k)))) n).toInt = 0)) q = N at F0 F1 FL
  have f0 : ∀ k : Nat, k < N → (t3_b f (if a.toInt = 0 then Int32.ofNat (100 * (q - k)) else -(Int32.ofNat (100 * (q - k)))) n).toInt = 0 := fun k hk => Classical.not_not.mp (of_decide_eq_false (F0 k hk))
  have f1 : N < q → ¬ (t3_b f (if a.toInt = 0 then Int32.ofNat (100 * (q - N)) else -(Int32.ofNat (100 * (q - N)))) n).toInt = 0 := fun h => of_decide_eq_true (F1 h)
  -- the reference, from what the class leaves
  have ref : ∀ y : Int32, y = (if N < q then (if a.toInt = 0 then Int32.ofNat (100 * (q - N)) else -(Int32.ofNat (100 * (q - N)))) else (0 : Int32)) → ∀ G : t2_F, (∀ p : Nat, p < 181 ∨ 271 ≤ p → G p = f p) → fl_Tq (pw_P L xs) 316 0 (fl_args (am_mxl (pw_P L xs) 316) [at_this, .inl a, .inl b]) [] (G, l) (fun v2 _ => v2 = some (.inl y)) := by
    intro y hy G hG
    have g280 : G 280 = f 280 := hG 280 (Or.inr (by decide))
    show fl_Tq (pw_P L xs) 316 0 [some (.inr (.inr (.inl (76, 277)))), some (.inl a), some (.inl b), none] [] (G, l) _
    refine z316_A (fun h => absurd ?_ (r_i0.mp h)) (fun _ => ?_)
    · rw [c0, c1]
      exact va
    refine fl_Tq.cal rfl rfl (fl_bo rfl) rfl ?_
    refine r_canRun_q ?_
    refine z316_B (fun h => ?_) (fun _ _ => ?_) (fun _ h => absurd (by rw [g280, c2]; exact h2) h)
    · rw [t2_can (by rw [g280]; exact t7) (by omega), g280, c60] at h
      exact absurd ⟨vb, vT⟩ h
    rw [g280, hund _ Q (by omega) (by omega) hQ]
    refine (t2_for (n := (Q - q) + N) (S := fun k => ∀ g : t2_F, (∀ w : Nat, 2 ≤ w → w < 1420 → g 280 w = f 280 w) → g 279 = f 279 → fl_Tq (pw_P L xs) 316 43 [some (.inr (.inr (.inl (76, 277)))), some (.inl a), some (.inl b), some (.inl (Int32.ofNat (100 * (Q - k))))] [] (g, l) (fun v2 _ => v2 = some (.inl y))) (fun k hk hS => ?_) ?_) G (fun w _ _ => by rw [g280]) (hG 279 (Or.inr (by decide)))
    · intro g g1 g2
      have es := at_ofN (k := 100 * (Q - k)) (by omega)
      refine z316_C (fun _ => ?_) (fun h => absurd (by rw [es]; omega) h)
      refine fl_Tq.cal rfl rfl (fl_bo rfl) rfl ?_
      refine fl_Tq.mono (y_goes_q hg g1 g2 (vr (Q - k) (by omega)) hn (by omega)) ?_
      rintro r m ⟨G', rfl, k1, k2, rfl⟩
      refine z316_D (fun _ => ?_) (fun h => absurd ?_ h)
      · rw [down (Q - k) (by omega) (by omega), show Q - k - 1 = Q - (k + 1) by omega]
        exact hS G' k1 k2
      · by_cases hk2 : q < Q - k
        · rw [far (Q - k) hk2 (by omega)]
          exact c0
        · have := f0 (k - (Q - q)) (by omega)
          rw [show q - (k - (Q - q)) = Q - k by omega] at this
          exact this
    · intro g g1 g2
      rw [show Q - ((Q - q) + N) = q - N by omega]
      have es := at_ofN (k := 100 * (q - N)) (by omega)
      refine z316_C (fun h => ?_) (fun h => ?_)
      · rw [es] at h
        have hN : N < q := by omega
        refine fl_Tq.cal rfl rfl (fl_bo rfl) rfl ?_
        refine fl_Tq.mono (y_goes_q hg g1 g2 (vr (q - N) (by omega)) hn (by omega)) ?_
        rintro r m ⟨G', rfl, k1, k2, rfl⟩
        refine z316_D (fun h => absurd h (f1 hN)) (fun _ => ?_)
        rw [hy, if_pos hN]
      · rw [es] at h
        rw [hy, if_neg (by omega)]
  refine (t2_for (n := N) (S := fun k => ∀ G : t2_F, t2_Z (G, l) → (∀ p : Nat, p < 181 ∨ 271 ≤ p → G p = f p) → fl_Tq (pw_P L xs) 164 84 [some (.inr (.inr (.inl (0, 0)))), some (.inl a), some (.inl b), some (.inl fi), some (.inl (if a.toInt = 0 then (1 : Int32) else (-1 : Int32))), some (.inl (Int32.ofNat (100 * (q - k))))] [] (G, l) (fun v m => ∃ (G : t2_F) (y : Int32), v = some (.inl y) ∧ m = (G, l) ∧ (∀ p : Nat, p < 181 ∨ 271 ≤ p → G p = f p) ∧ fl_Tq (pw_P L xs) 316 0 (fl_args (am_mxl (pw_P L xs) 316) [at_this, .inl a, .inl b]) [] (G, l) (fun v2 _ => v2 = some (.inl y)))) (fun k hk hS => ?_) ?_) f hg (fun p _ => rfl)
  · intro G ZG hG
    have es := at_ofN (k := 100 * (q - k)) (by omega)
    refine x_po_C (fun _ => ?_) (fun h => absurd (by rw [es]; omega) h)
    rw [vv (q - k) (by omega)]
    refine fl_Tq.cal rfl rfl (fl_bo rfl) rfl ?_
    refine fl_Tq.mono (x_bears_q hall ZG hG (vr (q - k) (by omega)) hn (by omega)) ?_
    rintro r m ⟨G', rfl, Z', k1, rfl⟩
    refine x_po_D (fun _ => ?_) (fun h => absurd (f0 k hk) h)
    rw [down (q - k) (by omega) (by omega), show q - k - 1 = q - (k + 1) by omega]
    exact hS G' Z' (fun p hp => by rw [k1 p hp, hG p hp])
  · intro G ZG hG
    have es := at_ofN (k := 100 * (q - N)) (by omega)
    refine x_po_C (fun h => ?_) (fun h => ?_)
    · rw [es] at h
      have hN : N < q := by omega
      rw [vv (q - N) (by omega)]
      refine fl_Tq.cal rfl rfl (fl_bo rfl) rfl ?_
      refine fl_Tq.mono (x_bears_q hall ZG hG (vr (q - N) (by omega)) hn (by omega)) ?_
      rintro r m ⟨G', rfl, Z', k1, rfl⟩
      have k2 : ∀ p : Nat, p < 181 ∨ 271 ≤ p → G' p = f p := fun p hp => by rw [k1 p hp, hG p hp]
      refine x_po_D (fun h => absurd h (f1 hN)) (fun _ => ?_)
      rw [vv (q - N) (by omega)]
      exact ⟨G', _, rfl, rfl, k2, ref _ (by rw [if_pos hN]) G' k2⟩
    · rw [es] at h
      exact ⟨G, _, rfl, rfl, hG, ref _ (by rw [if_neg (by omega)]) G hG⟩
end P62

end

/-! 95.05.36p64.lean.txt -/
section
theorem x_yi_A {L : Nat} {xs : Nat → Int32} {f : t2_F} {l : t2_L} {Q : Option fl_V → fl_M → Prop} {a : Int32}  (k : ((t2_within_v a (1 : Int32) (99999 : Int32)).toInt = 0) → Q (some (.inl (-1 : Int32))) (f, l)) (k1 : (¬ ((t2_within_v a (1 : Int32) (99999 : Int32)).toInt = 0)) → fl_Tq (pw_P L xs) 166 20 [some (.inr (.inr (.inl (0, 0)))), some (.inl a), none] [.inr (.inr (.inl (1, 1))), .inr (.inr (.inl (49, 181)))] (f, l) Q) : fl_Tq (pw_P L xs) 166 0 [some (.inr (.inr (.inl (0, 0)))), some (.inl a), none] [] (f, l) Q := by
  refine fl_Tq.stp (pc' := 1) (lv' := [some (.inr (.inr (.inl (0, 0)))), some (.inl a), none]) (st' := [.inl a]) (m' := (f, l)) rfl rfl (fl_bo rfl) rfl ?_
  refine fl_Tq.cI (c := (1 : Int32)) rfl (by decide +kernel) (fl_bo rfl) ?_
  refine fl_Tq.stp (pc' := 4) (lv' := [some (.inr (.inr (.inl (0, 0)))), some (.inl a), none]) (st' := [.inl (99999 : Int32), .inl (1 : Int32), .inl a]) (m' := (f, l)) rfl rfl (fl_bo rfl) rfl ?_
  refine fl_Tq.cal rfl rfl (fl_bo rfl) rfl ?_
  refine t2_within_q  ?_
  show fl_Tq _ 166 7 [some (.inr (.inr (.inl (0, 0)))), some (.inl a), none] [.inl (t2_within_v a (1 : Int32) (99999 : Int32))] (f, l) _
  by_cases h1 : (t2_within_v a (1 : Int32) (99999 : Int32)).toInt = 0
  · refine fl_Tq.zf rfl (fl_bo rfl) (c1_ne_f h1) rfl ?_
    refine fl_Tq.cI (c := (-1 : Int32)) rfl (by decide +kernel) (fl_bo rfl) ?_
    exact fl_Tq.ret rfl rfl rfl (k h1)
  · refine fl_Tq.zt rfl (fl_bo rfl) (c1_ne_t h1) rfl ?_
    refine fl_Tq.stp (pc' := 13) (lv' := [some (.inr (.inr (.inl (0, 0)))), some (.inl a), none]) (st' := [.inr (.inr (.inl (0, 0)))]) (m' := (f, l)) rfl rfl (fl_bo rfl) rfl ?_
    refine fl_Tq.stp (pc' := 16) (lv' := [some (.inr (.inr (.inl (0, 0)))), some (.inl a), none]) (st' := [.inr (.inr (.inl (49, 181)))]) (m' := (f, l)) rfl rfl (fl_bo rfl) rfl ?_
    refine fl_Tq.stp (pc' := 17) (lv' := [some (.inr (.inr (.inl (0, 0)))), some (.inl a), none]) (st' := [.inr (.inr (.inl (0, 0))), .inr (.inr (.inl (49, 181)))]) (m' := (f, l)) rfl rfl (fl_bo rfl) rfl ?_
    refine fl_Tq.stp (pc' := 20) (lv' := [some (.inr (.inr (.inl (0, 0)))), some (.inl a), none]) (st' := [.inr (.inr (.inl (1, 1))), .inr (.inr (.inl (49, 181)))]) (m' := (f, l)) rfl rfl (fl_bo rfl) rfl ?_
    exact k1 h1
theorem x_yi_B {L : Nat} {xs : Nat → Int32} {f : t2_F} {l : t2_L} {Q : Option fl_V → fl_M → Prop} {a : Int32}  (k : fl_Tq (pw_P L xs) 166 51 [some (.inr (.inr (.inl (0, 0)))), some (.inl a), some (.inl (1 : Int32))] [] (fl_row (fl_row f 183 (upd (f 183) 8 (0 : Int32))) 184 (upd (f 184) 20 (-a)), l) Q) : fl_Tq (pw_P L xs) 166 23 [some (.inr (.inr (.inl (0, 0)))), some (.inl a), none] [] (f, l) Q := by
  refine fl_Tq.stp (pc' := 24) (lv' := [some (.inr (.inr (.inl (0, 0)))), some (.inl a), none]) (st' := [.inr (.inr (.inl (0, 0)))]) (m' := (f, l)) rfl rfl (fl_bo rfl) rfl ?_
  refine fl_Tq.stp (pc' := 27) (lv' := [some (.inr (.inr (.inl (0, 0)))), some (.inl a), none]) (st' := [.inr (.inr (.inl (49, 181)))]) (m' := (f, l)) rfl rfl (fl_bo rfl) rfl ?_
  refine fl_Tq.stp (pc' := 30) (lv' := [some (.inr (.inr (.inl (0, 0)))), some (.inl a), none]) (st' := [.inr (.inr (.inl (51, 183)))]) (m' := (f, l)) rfl rfl (fl_bo rfl) rfl ?_
  refine fl_Tq.cI (c := (0 : Int32)) rfl (by decide +kernel) (fl_bo rfl) ?_
  refine fl_Tq.pfV (k := 8) (m' := (fl_row f 183 (upd (f 183) 8 (0 : Int32)), l)) rfl (fl_bo rfl) rfl (t2_upn rfl) ?_
  refine fl_Tq.stp (pc' := 35) (lv' := [some (.inr (.inr (.inl (0, 0)))), some (.inl a), none]) (st' := [.inr (.inr (.inl (0, 0)))]) (m' := (fl_row f 183 (upd (f 183) 8 (0 : Int32)), l)) rfl rfl (fl_bo rfl) rfl ?_
  refine fl_Tq.stp (pc' := 38) (lv' := [some (.inr (.inr (.inl (0, 0)))), some (.inl a), none]) (st' := [.inr (.inr (.inl (49, 181)))]) (m' := (fl_row f 183 (upd (f 183) 8 (0 : Int32)), l)) rfl rfl (fl_bo rfl) rfl ?_
  refine fl_Tq.stp (pc' := 41) (lv' := [some (.inr (.inr (.inl (0, 0)))), some (.inl a), none]) (st' := [.inr (.inr (.inl (51, 183)))]) (m' := (fl_row f 183 (upd (f 183) 8 (0 : Int32)), l)) rfl rfl (fl_bo rfl) rfl ?_
  refine fl_Tq.stp (pc' := 44) (lv' := [some (.inr (.inr (.inl (0, 0)))), some (.inl a), none]) (st' := [.inr (.inr (.inl (52, 184)))]) (m' := (fl_row f 183 (upd (f 183) 8 (0 : Int32)), l)) rfl rfl (fl_bo rfl) rfl ?_
  refine fl_Tq.cB (c := (20 : Int32)) rfl (by decide +kernel) (fl_bo rfl) ?_
  refine fl_Tq.stp (pc' := 47) (lv' := [some (.inr (.inr (.inl (0, 0)))), some (.inl a), none]) (st' := [.inl a, .inl (20 : Int32), .inr (.inr (.inl (52, 184)))]) (m' := (fl_row f 183 (upd (f 183) 8 (0 : Int32)), l)) rfl rfl (fl_bo rfl) rfl ?_
  refine fl_Tq.stp (pc' := 48) (lv' := [some (.inr (.inr (.inl (0, 0)))), some (.inl a), none]) (st' := [.inl (-a), .inl (20 : Int32), .inr (.inr (.inl (52, 184)))]) (m' := (fl_row f 183 (upd (f 183) 8 (0 : Int32)), l)) rfl rfl (fl_bo rfl) rfl ?_
  refine fl_Tq.svV (p := 184) (τ := 52) (n := 30) (z := (0, 0, 0)) (k := 20) (m' := (fl_row (fl_row f 183 (upd (f 183) 8 (0 : Int32))) 184 (upd (f 184) 20 (-a)), l)) rfl (fl_bo rfl) rfl (by decide +kernel) (by decide) (t2_upn (by rw [fl_row_ne (by decide : 184 ≠ 183)])) ?_
  refine fl_Tq.cI (c := (1 : Int32)) rfl (by decide +kernel) (fl_bo rfl) ?_
  refine fl_Tq.stp (pc' := 51) (lv' := [some (.inr (.inr (.inl (0, 0)))), some (.inl a), some (.inl (1 : Int32))]) (st' := []) (m' := (fl_row (fl_row f 183 (upd (f 183) 8 (0 : Int32))) 184 (upd (f 184) 20 (-a)), l)) rfl rfl (fl_bo rfl) rfl ?_
  exact k
theorem x_yi_C {L : Nat} {xs : Nat → Int32} {f : t2_F} {l : t2_L} {Q : Option fl_V → fl_M → Prop} {a : Int32} {j : Nat}  (k : ((2000 : Int32).toInt < (Int32.ofNat j).toInt) → Q (some (.inl (-1 : Int32))) (f, l)) (k1 : (¬ ((2000 : Int32).toInt < (Int32.ofNat j).toInt)) → ((f 181 6).toInt < (9999 : Int32).toInt) → fl_Tq (pw_P L xs) 166 75 [some (.inr (.inr (.inl (0, 0)))), some (.inl a), some (.inl (Int32.ofNat j))] [.inr (.inr (.inl (49, 181)))] (f, l) Q) (k2 : (¬ ((2000 : Int32).toInt < (Int32.ofNat j).toInt)) → (¬ ((f 181 6).toInt < (9999 : Int32).toInt)) → Q (some (.inl (-1 : Int32))) (f, l)) : fl_Tq (pw_P L xs) 166 51 [some (.inr (.inr (.inl (0, 0)))), some (.inl a), some (.inl (Int32.ofNat j))] [] (f, l) Q := by
  refine fl_Tq.stp (pc' := 52) (lv' := [some (.inr (.inr (.inl (0, 0)))), some (.inl a), some (.inl (Int32.ofNat j))]) (st' := [.inl (Int32.ofNat j)]) (m' := (f, l)) rfl rfl (fl_bo rfl) rfl ?_
  refine fl_Tq.cS (c := (2000 : Int32)) rfl (by decide +kernel) (fl_bo rfl) ?_
  by_cases h1 : (2000 : Int32).toInt < (Int32.ofNat j).toInt
  · refine fl_Tq.jt rfl (fl_bo rfl) (c2_gt_t h1) rfl ?_
    refine fl_Tq.cI (c := (-1 : Int32)) rfl (by decide +kernel) (fl_bo rfl) ?_
    exact fl_Tq.ret rfl rfl rfl (k h1)
  · refine fl_Tq.jf rfl (fl_bo rfl) (c2_gt_f h1) rfl ?_
    refine fl_Tq.stp (pc' := 59) (lv' := [some (.inr (.inr (.inl (0, 0)))), some (.inl a), some (.inl (Int32.ofNat j))]) (st' := [.inr (.inr (.inl (0, 0)))]) (m' := (f, l)) rfl rfl (fl_bo rfl) rfl ?_
    refine fl_Tq.stp (pc' := 62) (lv' := [some (.inr (.inr (.inl (0, 0)))), some (.inl a), some (.inl (Int32.ofNat j))]) (st' := [.inr (.inr (.inl (49, 181)))]) (m' := (f, l)) rfl rfl (fl_bo rfl) rfl ?_
    refine fl_Tq.gfV (k := 6) (v := f 181 6) rfl (fl_bo rfl) rfl rfl ?_
    refine fl_Tq.cS (c := (9999 : Int32)) rfl (by decide +kernel) (fl_bo rfl) ?_
    by_cases h2 : (f 181 6).toInt < (9999 : Int32).toInt
    · refine fl_Tq.jf rfl (fl_bo rfl) (c2_ge_f h2) rfl ?_
      refine fl_Tq.stp (pc' := 72) (lv' := [some (.inr (.inr (.inl (0, 0)))), some (.inl a), some (.inl (Int32.ofNat j))]) (st' := [.inr (.inr (.inl (0, 0)))]) (m' := (f, l)) rfl rfl (fl_bo rfl) rfl ?_
      refine fl_Tq.stp (pc' := 75) (lv' := [some (.inr (.inr (.inl (0, 0)))), some (.inl a), some (.inl (Int32.ofNat j))]) (st' := [.inr (.inr (.inl (49, 181)))]) (m' := (f, l)) rfl rfl (fl_bo rfl) rfl ?_
      exact k1 h1 h2
    · refine fl_Tq.jt rfl (fl_bo rfl) (c2_ge_t h2) rfl ?_
      refine fl_Tq.cI (c := (-1 : Int32)) rfl (by decide +kernel) (fl_bo rfl) ?_
      exact fl_Tq.ret rfl rfl rfl (k2 h1 h2)
theorem x_yi_D {L : Nat} {xs : Nat → Int32} {f : t2_F} {l : t2_L} {Q : Option fl_V → fl_M → Prop} {a z : Int32} {j : Nat}  (k : ((f 181 9).toInt = (-a).toInt) → fl_Tq (pw_P L xs) 166 51 [some (.inr (.inr (.inl (0, 0)))), some (.inl a), some (.inl ((Int32.ofNat j) + (1 : Int32)))] [] (f, l) Q) (k1 : (¬ ((f 181 9).toInt = (-a).toInt)) → Q (some (.inl (Int32.ofNat j))) (f, l)) : fl_Tq (pw_P L xs) 166 78 [some (.inr (.inr (.inl (0, 0)))), some (.inl a), some (.inl (Int32.ofNat j))] [.inl z] (f, l) Q := by
  refine fl_Tq.stp (pc' := 79) (lv' := [some (.inr (.inr (.inl (0, 0)))), some (.inl a), some (.inl (Int32.ofNat j))]) (st' := []) (m' := (f, l)) rfl rfl (fl_bo rfl) rfl ?_
  refine fl_Tq.stp (pc' := 80) (lv' := [some (.inr (.inr (.inl (0, 0)))), some (.inl a), some (.inl (Int32.ofNat j))]) (st' := [.inr (.inr (.inl (0, 0)))]) (m' := (f, l)) rfl rfl (fl_bo rfl) rfl ?_
  refine fl_Tq.stp (pc' := 83) (lv' := [some (.inr (.inr (.inl (0, 0)))), some (.inl a), some (.inl (Int32.ofNat j))]) (st' := [.inr (.inr (.inl (49, 181)))]) (m' := (f, l)) rfl rfl (fl_bo rfl) rfl ?_
  refine fl_Tq.gfV (k := 9) (v := f 181 9) rfl (fl_bo rfl) rfl rfl ?_
  refine fl_Tq.stp (pc' := 87) (lv' := [some (.inr (.inr (.inl (0, 0)))), some (.inl a), some (.inl (Int32.ofNat j))]) (st' := [.inl a, .inl (f 181 9)]) (m' := (f, l)) rfl rfl (fl_bo rfl) rfl ?_
  refine fl_Tq.stp (pc' := 88) (lv' := [some (.inr (.inr (.inl (0, 0)))), some (.inl a), some (.inl (Int32.ofNat j))]) (st' := [.inl (-a), .inl (f 181 9)]) (m' := (f, l)) rfl rfl (fl_bo rfl) rfl ?_
  by_cases h1 : (f 181 9).toInt = (-a).toInt
  · refine fl_Tq.jt rfl (fl_bo rfl) (c2_eq_t h1) rfl ?_
    refine fl_Tq.stp (pc' := 96) (lv' := [some (.inr (.inr (.inl (0, 0)))), some (.inl a), some (.inl ((Int32.ofNat j) + (1 : Int32)))]) (st' := []) (m' := (f, l)) rfl rfl (fl_bo rfl) rfl ?_
    refine fl_Tq.stp (pc' := 51) (lv' := [some (.inr (.inr (.inl (0, 0)))), some (.inl a), some (.inl ((Int32.ofNat j) + (1 : Int32)))]) (st' := []) (m' := (f, l)) rfl rfl (fl_bo rfl) rfl ?_
    exact k h1
  · refine fl_Tq.jf rfl (fl_bo rfl) (c2_eq_f h1) rfl ?_
    refine fl_Tq.stp (pc' := 92) (lv' := [some (.inr (.inr (.inl (0, 0)))), some (.inl a), some (.inl (Int32.ofNat j))]) (st' := [.inl (Int32.ofNat j)]) (m' := (f, l)) rfl rfl (fl_bo rfl) rfl ?_
    exact fl_Tq.ret rfl rfl rfl (k1 h1)
def tz_c166 : at_C := (166, [.inl (0, some 0), .inr (false, -2147483648, 2147483647)], [], some (.inr (false, -1, 2000)), false, [(49, false, 5, 16), (51, false, 6, 8), (52, false, 0, 29), (53, false, 0, 2), (54, false, 0, 23), (55, false, 0, 11), (56, false, 0, 47), (57, false, 0, 39), (58, false, 3, 6), (59, false, 0, 10), (60, false, 0, 3), (61, false, 2, 3), (62, false, -69, 140), (64, false, 2, 3), (65, false, -93, 188), (66, false, 0, 18), (67, false, 2, 2), (68, false, 0, 31), (69, false, 0, 10), (70, false, 2, 3), (71, false, 0, 15), (72, false, 0, 15)])
set_option maxRecDepth 100000 in
theorem tz_c166_in : tz_c166 ∈ at_CM ++ at_CA := List.mem_of_getElem? (i := 175) rfl
def tz_c317 : at_C := (317, [.inl (76, some 277), .inr (false, -2147483648, 2147483647)], [], some (.inr (false, -1, 2000)), false, [(76, false, 4, 4), (76, false, 6, 7), (79, false, 2, 1419), (79, true, 1, 1), (79, true, 3, 4), (79, true, 7, 8), (79, true, 10, 60), (81, false, 0, 15), (82, false, 0, 1417)])
set_option maxRecDepth 100000 in
theorem tz_c317_in : tz_c317 ∈ at_CM ++ at_CA := List.mem_of_getElem? (i := 272) rfl
/-! ===== yields, on both sides ===== -/
noncomputable def r_prunV (f : t2_F) : Nat → Int32
  | 0 => (0 : Int32)
  | k + 1 => r_prunV f k + r_psec_v (r_prunN f k)
noncomputable def t3_is (F : t2_F) (a : Int32) (j : Nat) : Int32 := if j = 0 then (0 : Int32) else (if (c2_runN F j 181 9).toInt = (-a).toInt then (0 : Int32) else (1 : Int32))
theorem t2_cmp_64 {L : Nat} {xs : Nat → Int32} {f : t2_F} {l : t2_L} {a : Int32} (hall : ∀ c ∈ at_CM ++ at_CA, at_Valid at_XI (pw_P L xs) c) (hg : t2_Z (f, l)) : fl_Tq (pw_P L xs) 166 0 (fl_args (am_mxl (pw_P L xs) 166) [lx_x, .inl a]) [] (f, l) (t2_End L xs 317 [at_this, .inl a]) := by
  have I : c0_I f f := hg.2.1
  have c0 : (0 : Int32).toInt = 0 := rfl
  have c1 : (1 : Int32).toInt = 1 := by decide +kernel
  have c9 : (9999 : Int32).toInt = 9999 := by decide +kernel
  have c20 : (2000 : Int32).toInt = 2000 := by decide +kernel
  have c99 : (99999 : Int32).toInt = 99999 := by decide +kernel
  have t7 : 0 ≤ (f 280 7).toInt ∧ (f 280 7).toInt ≤ 9999 := I.2.2.2.2.2.1.2.2.2
  refine t2_trial (hall _ tz_c166_in) rfl hg ⟨lx_kx _, lx_ki _, True.intro⟩ rfl (fun m Z => t2_acall (hall _ tz_c317_in) rfl Z ⟨at_k277 _, lx_ki _, True.intro⟩ rfl rfl rfl (t2_z317 hall Z.1 Z.2.2.2.2)) ?_
  show fl_Tq (pw_P L xs) 166 0 [some (.inr (.inr (.inl (0, 0)))), some (.inl a), none] [] (f, l) _
  refine x_yi_A (fun h1 => ?_) (fun h1 => ?_)
  · refine ⟨f, _, rfl, rfl, fun p _ => rfl, ?_⟩
    show fl_Tq (pw_P L xs) 317 0 [some (.inr (.inr (.inl (76, 277)))), some (.inl a), none, none, none] [] (f, l) _
    exact z317_A (fun _ => rfl) (fun h => absurd h1 h)
  have h1' := h1
  rw [t2_w0, Classical.not_not, c1, c99] at h1
  have na : (-a).toInt = -a.toInt := by rw [Int32.toInt_neg, Int.bmod_eq_of_le (by omega) (by omega)]
  refine fl_Tq.cal rfl rfl (fl_bo rfl) rfl ?_
  refine t2_begun hg (fun M mf K => ?_)
  refine x_yi_B ?_
  have FP : ∀ p : Nat, p ≠ 183 → p ≠ 184 → (fl_row (fl_row M 183 (upd (M 183) 8 (0 : Int32))) 184 (upd (M 184) 20 (-a))) p = M p := fun p h3 h4 => by rw [fl_row_ne h4, fl_row_ne h3]
  have F3 : (fl_row (fl_row M 183 (upd (M 183) 8 (0 : Int32))) 184 (upd (M 184) 20 (-a))) 183 = upd (M 183) 8 (0 : Int32) := by rw [fl_row_ne (by decide), fl_row_self]
  have F4 : (fl_row (fl_row M 183 (upd (M 183) 8 (0 : Int32))) 184 (upd (M 184) 20 (-a))) 184 = upd (M 184) 20 (-a) := by rw [fl_row_self]
  generalize fl_row (fl_row M 183 (upd (M 183) 8 (0 : Int32))) 184 (upd (M 184) 20 (-a)) = F at FP F3 F4 ⊢
  have nt : t3_nt F := Or.inr (by rw [F4, upd_self, na]; omega)
  have KG : ∀ g : t2_F, g 280 = f 280 → g 279 = f 279 → c3_K F (fl_row (fl_row g 277 (upd (g 277) 7 (1 : Int32))) 280 (upd (g 280) 54 (-a))) := fun g g280 g279 => by
    refine ⟨c3_I.of2 K.1 (v := -a) (by omega) (fun p _ _ h3 h4 => FP p h3 h4) (fun j hj => by rw [F3, upd_ne hj]) (by rw [F3, upd_self]; exact c0) (fun k hk _ => by rw [F4, upd_ne hk]) (by rw [F4, upd_self]) (fun w _ _ hw => by rw [fl_row_self, upd_ne hw, g280]) (by rw [fl_row_self, upd_self]), K.2.1.congr (fun p hp => FP p (by omega) (by omega)), K.2.2.1.same (by rw [fl_row_ne (by decide), fl_row_ne (by decide), g279]), ?_⟩
    rw [fl_row_ne (by decide), fl_row_self, upd_self]
  have T7 : ∀ g : t2_F, g 280 = f 280 → (fl_row (fl_row g 277 (upd (g 277) 7 (1 : Int32))) 280 (upd (g 280) 54 (-a))) 280 7 = f 280 7 := fun g g280 => by rw [fl_row_self, upd_ne (by decide), g280]
  obtain ⟨n, hn⟩ : ∃ n : Nat, (n : Int) = min 2000 (9999 - (f 280 7).toInt) := ⟨(min 2000 (9999 - (f 280 7).toInt)).toNat, by omega⟩
  have RUN : ∀ g : t2_F, g 280 = f 280 → g 279 = f 279 → ∀ k : Nat, k ≤ n → c3_K (c2_runN F k) (r_prunN (fl_row (fl_row g 277 (upd (g 277) 7 (1 : Int32))) 280 (upd (g 280) 54 (-a))) k) ∧ (r_prunN (fl_row (fl_row g 277 (upd (g 277) 7 (1 : Int32))) 280 (upd (g 280) 54 (-a))) k 280 7).toInt = (f 280 7).toInt + k := fun g h0 h9 k hk => by
    have r := (KG g h0 h9).run nt k (by rw [T7 g h0]; omega)
    rw [T7 g h0] at r
    exact ⟨r.1, r.2.1⟩
  have NT : ∀ k : Nat, k ≤ n → t3_nt (c2_runN F k) := fun k hk => by
    have r := (KG f rfl rfl).run nt k (by rw [T7 f rfl]; omega)
    exact nt.same r.2.2.1
  have PN : ∀ k : Nat, k ≤ n → ∀ p : Nat, p < 181 ∨ 271 ≤ p → c2_runN F k p = f p := fun k hk p hp => by
    have r := (KG f rfl rfl).run nt k (by rw [T7 f rfl]; omega)
    rw [r.2.2.2 p hp, FP p (by omega) (by omega), mf p hp]
  have TN : ∀ k : Nat, k ≤ n → (c2_runN F k 181 6).toInt = (f 280 7).toInt + k := fun k hk => by
    obtain ⟨r, t⟩ := RUN f rfl rfl k hk
    rw [r.1.1.1.2.1]
    exact t
  -- the first second in which the current isn't that
  obtain ⟨F0, F1⟩ := t2_fst_p (fun k => decide (¬ (c2_runN F (k + 1) 181 9).toInt = (-a).toInt)) n
  have FL := t2_fst_le (fun k => decide (¬ (c2_runN F (k + 1) 181 9).toInt = (-a).toInt)) n
  generalize t2_fst (fun k => decide (¬ (c2_runN F (k + 1) 181 9).toInt = (-a).toInt)) n = N at F0 F1 FL
  have f0 : ∀ k : Nat, k < N → (c2_runN F (k + 1) 181 9).toInt = (-a).toInt := fun k hk => Classical.not_not.mp (of_decide_eq_false (F0 k hk))
  have f1 : N < n → ¬ (c2_runN F (N + 1) 181 9).toInt = (-a).toInt := fun h => of_decide_eq_true (F1 h)
  have is0 : ∀ j : Nat, j ≤ N → t3_is F a j = 0 := fun j hj => by
    unfold t3_is
    by_cases e : j = 0
    · rw [if_pos e]
    · have := f0 (j - 1) (by omega)
      rw [show j - 1 + 1 = j by omega] at this
      rw [if_neg e, if_pos this]
  -- the reference, from what the class leaves
  have ref : ∀ (J : Nat) (y : Int32), J ≤ n → (∀ j : Nat, j < J → t3_is F a j = 0) → ((t3_is F a J = 0 ∧ J = n ∧ y = -1) ∨ (t3_is F a J = 1 ∧ y = Int32.ofNat J)) → ∀ G : t2_F, (∀ p : Nat, p < 181 ∨ 271 ≤ p → G p = f p) → fl_Tq (pw_P L xs) 317 0 (fl_args (am_mxl (pw_P L xs) 317) [at_this, .inl a]) [] (G, l) (fun v2 _ => v2 = some (.inl y)) := by
    intro J y hJ hz hy G hG
    show fl_Tq (pw_P L xs) 317 0 [some (.inr (.inr (.inl (76, 277)))), some (.inl a), none, none, none] [] (G, l) _
    refine z317_A (fun h => absurd h h1') (fun _ => ?_)
    refine fl_Tq.cal rfl rfl (fl_bo rfl) rfl ?_
    refine r_putAside_q (m := (G, l)) (fun g gp _ => ?_)
    have gp : ∀ p : Nat, p ≠ 283 → g p = G p := gp
    refine z317_B ?_
    have R := RUN g ((gp 280 (by decide)).trans (hG 280 (Or.inr (by decide)))) ((gp 279 (by decide)).trans (hG 279 (Or.inr (by decide))))
    generalize fl_row (fl_row g 277 (upd (g 277) 7 (1 : Int32))) 280 (upd (g 280) 54 (-a)) = H at R ⊢
    have fin : ∀ (b c : Int32) (H' : t2_F), c = t3_is F a J → fl_Tq (pw_P L xs) 317 99 [some (.inr (.inr (.inl (76, 277)))), some (.inl a), some (.inl (Int32.ofNat J)), some (.inl b), some (.inl c)] [.inr (.inr (.inl (76, 277)))] (H', l) (fun v2 _ => v2 = some (.inl y)) := by
      intro b c H' hc
      refine fl_Tq.cal rfl rfl (fl_bo rfl) rfl ?_
      refine r_bringBack_q (m := (H', l)) (fun g2 _ _ _ => ?_)
      refine z317_E ?_
      show some (Sum.inl (z317_E_j104_0 a b c J)) = some (Sum.inl y)
      unfold z317_E_j104_0
      rcases hy with ⟨e, -, rfl⟩ | ⟨e, rfl⟩
      · rw [hc, e, if_pos c0]
      · rw [hc, e, if_neg (by decide)]
    refine t2_for (n := J) (S := fun j => fl_Tq (pw_P L xs) 317 37 [some (.inr (.inr (.inl (76, 277)))), some (.inl a), some (.inl (Int32.ofNat j)), some (.inl (r_prunV H j)), some (.inl (t3_is F a j))] [] (r_prunN H j, l) (fun v2 _ => v2 = some (.inl y))) (fun j hj hS => ?_) ?_
    · have ej : (Int32.ofNat j).toInt = j := at_ofN (by omega)
      obtain ⟨r, t⟩ := R j (by omega)
      have z := hz j hj
      refine z317_C (fun _ _ _ => ?_) (fun _ _ h => absurd (by rw [t, c9]; omega) h) (fun _ h => absurd (by rw [ej, c20]; omega) h) (fun h => absurd (by rw [z]; exact c0) h)
      refine fl_Tq.cal rfl rfl (fl_bo rfl) rfl ?_
      refine c3_rsec_q r.1 (by rw [t]; omega) (NT j (by omega)) r.2.2.1 r.2.2.2 ?_
      refine z317_D ?_
      rw [t2_k1]
      have e5 : z317_D_j80_0 (r_psec_m (r_prunN H j)) a (r_prunV H j) (t3_is F a j) (r_psec_v (r_prunN H j)) j = t3_is F a (j + 1) := by
        obtain ⟨r', -⟩ := R (j + 1) (by omega)
        have w5 : c2_runN F (j + 1) 181 9 = r_psec_m (r_prunN H j) 280 5 := r'.1.1.2.1.1
        unfold z317_D_j80_0 t3_is
        rw [if_neg (Nat.succ_ne_zero j), w5]
      rw [e5]
      exact hS
    · have eJ : (Int32.ofNat J).toInt = J := at_ofN (by omega)
      obtain ⟨r, t⟩ := R J hJ
      refine z317_C (fun h h2 h3 => ?_) (fun _ _ _ => fin _ _ _ rfl) (fun _ _ => fin _ _ _ rfl) (fun _ => fin _ _ _ rfl)
      rw [eJ, c20] at h2
      rw [t, c9] at h3
      rcases hy with ⟨-, e, -⟩ | ⟨e, -⟩
      · omega
      · rw [e, c1] at h
        omega
  refine t2_for (n := N) (S := fun j => fl_Tq (pw_P L xs) 166 51 [some (.inr (.inr (.inl (0, 0)))), some (.inl a), some (.inl (Int32.ofNat (j + 1)))] [] (c2_runN F j, l) _) (fun j hj hS => ?_) ?_
  · have ej : (Int32.ofNat (j + 1)).toInt = ((j + 1 : Nat) : Int) := at_ofN (by omega)
    obtain ⟨r, t⟩ := RUN f rfl rfl j (by omega)
    have tt := TN j (by omega)
    refine x_yi_C (fun h => absurd h (by rw [ej, c20]; omega)) (fun _ _ => ?_) (fun _ h => absurd (by rw [tt, c9]; omega) h)
    refine fl_Tq.cal rfl rfl (fl_bo rfl) rfl ?_
    refine c3_sec_q r.1 (by rw [t]; omega) (NT j (by omega)) r.2.1 ?_
    refine x_yi_D (fun _ => ?_) (fun h => absurd (f0 j hj) h)
    rw [t2_k1]
    exact hS
  · have eN : (Int32.ofNat (N + 1)).toInt = ((N + 1 : Nat) : Int) := at_ofN (by omega)
    obtain ⟨r, t⟩ := RUN f rfl rfl N FL
    have tt := TN N FL
    have none_ : N = n → ∃ (G : t2_F) (y : Int32), (some (.inl (-1 : Int32)) : Option fl_V) = some (.inl y) ∧ ((c2_runN F N, l) : fl_M) = (G, l) ∧ (∀ p : Nat, p < 181 ∨ 271 ≤ p → G p = f p) ∧ fl_Tq (pw_P L xs) 317 0 (fl_args (am_mxl (pw_P L xs) 317) [at_this, .inl a]) [] (G, l) (fun v2 _ => v2 = some (.inl y)) := fun e =>
      ⟨_, _, rfl, rfl, PN N FL, ref N _ FL (fun j hj => is0 j (by omega)) (Or.inl ⟨is0 N (Nat.le_refl _), e, rfl⟩) _ (PN N FL)⟩
    refine x_yi_C (fun h => ?_) (fun h h2 => ?_) (fun h h2 => ?_)
    · rw [eN, c20] at h
      exact none_ (by omega)
    · rw [eN, c20] at h
      rw [tt, c9] at h2
      have hN : N < n := by omega
      refine fl_Tq.cal rfl rfl (fl_bo rfl) rfl ?_
      refine c3_sec_q r.1 (by rw [t]; omega) (NT N FL) r.2.1 ?_
      refine x_yi_D (fun e => absurd e (f1 hN)) (fun _ => ?_)
      refine ⟨_, _, rfl, rfl, PN (N + 1) hN, ref (N + 1) _ hN (fun j hj => is0 j (by omega)) (Or.inr ⟨?_, rfl⟩) _ (PN (N + 1) hN)⟩
      unfold t3_is
      rw [if_neg (Nat.succ_ne_zero N), if_neg (f1 hN)]
    · rw [tt, c9] at h2
      exact none_ (by omega)

end

/-! 95.05.37p69.lean.txt -/
section
theorem x_steps {L : Nat} {xs : Nat → Int32} {f : t2_F} {l : t2_L} {Q : Option fl_V → fl_M → Prop}   (k : Q (some (.inl (f 271 2))) (f, l)) : fl_Tq (pw_P L xs) 158 0 [some (.inr (.inr (.inl (0, 0))))] [] (f, l) Q := by
  refine fl_Tq.stp (pc' := 1) (lv' := [some (.inr (.inr (.inl (0, 0))))]) (st' := [.inr (.inr (.inl (0, 0)))]) (m' := (f, l)) rfl rfl (fl_bo rfl) rfl ?_
  refine fl_Tq.stp (pc' := 4) (lv' := [some (.inr (.inr (.inl (0, 0))))]) (st' := [.inr (.inr (.inl (73, 271)))]) (m' := (f, l)) rfl rfl (fl_bo rfl) rfl ?_
  refine fl_Tq.gfV (k := 2) (v := f 271 2) rfl (fl_bo rfl) rfl rfl ?_
  exact fl_Tq.ret rfl rfl rfl k
theorem y_steps {L : Nat} {xs : Nat → Int32} {f : t2_F} {l : t2_L} {Q : Option fl_V → fl_M → Prop}   (k : Q (some (.inl (f 280 0))) (f, l)) : fl_Tq (pw_P L xs) 325 0 [some (.inr (.inr (.inl (76, 277))))] [] (f, l) Q := by
  refine fl_Tq.stp (pc' := 1) (lv' := [some (.inr (.inr (.inl (76, 277))))]) (st' := [.inr (.inr (.inl (76, 277)))]) (m' := (f, l)) rfl rfl (fl_bo rfl) rfl ?_
  refine fl_Tq.stp (pc' := 4) (lv' := [some (.inr (.inr (.inl (76, 277))))]) (st' := [.inr (.inr (.inl (79, 280)))]) (m' := (f, l)) rfl rfl (fl_bo rfl) rfl ?_
  refine fl_Tq.cI (c := (0 : Int32)) rfl (by decide +kernel) (fl_bo rfl) ?_
  refine fl_Tq.ldV (p := 280) (τ := 79) (n := 29780) (z := (0, 0, 0)) (k := 0) (v := f 280 0) rfl (fl_bo rfl) rfl (by decide +kernel) (by decide) rfl ?_
  exact fl_Tq.ret rfl rfl rfl k
/-! ===== steps() on both sides ===== -/
theorem t2_cmp_69 {L : Nat} {xs : Nat → Int32} {f : t2_F} {l : t2_L} (_hall : ∀ c ∈ at_CM ++ at_CA, at_Valid at_XI (pw_P L xs) c) (hg : t2_Z (f, l)) : fl_Tq (pw_P L xs) 158 0 (fl_args (am_mxl (pw_P L xs) 158) [lx_x]) [] (f, l) (t2_End L xs 325 [at_this]) := by
  have e : f 271 2 = f 280 0 := hg.2.2.1.1.1
  refine t2_qq (y := f 280 0) hg (fun Q k => ?_) (fun Q k => ?_)
  · rw [← e] at k
    exact x_steps k
  · exact y_steps k

end

/-! 95.05.38p1.lean.txt -/
section
theorem x_tl_A {L : Nat} {xs : Nat → Int32} {f : t2_F} {l : t2_L} {Q : Option fl_V → fl_M → Prop} {a b c d : Int32}  (k : ((t2_within_v a (0 : Int32) ((f 16 3) - (1 : Int32))).toInt = 0) → Q (some (.inl d)) (f, l)) (k1 : (¬ ((t2_within_v a (0 : Int32) ((f 16 3) - (1 : Int32))).toInt = 0)) → ((t2_within_v b (0 : Int32) (c - (1 : Int32))).toInt = 0) → Q (some (.inl d)) (f, l)) (k2 : (¬ ((t2_within_v a (0 : Int32) ((f 16 3) - (1 : Int32))).toInt = 0)) → (¬ ((t2_within_v b (0 : Int32) (c - (1 : Int32))).toInt = 0)) → fl_Tq (pw_P L xs) 28 28 [some (.inr (.inr (.inl (16, 16)))), some (.inl a), some (.inl b), some (.inl c), some (.inl d)] [] (f, l) Q) : fl_Tq (pw_P L xs) 28 0 [some (.inr (.inr (.inl (16, 16)))), some (.inl a), some (.inl b), some (.inl c), some (.inl d)] [] (f, l) Q := by
  refine fl_Tq.stp (pc' := 1) (lv' := [some (.inr (.inr (.inl (16, 16)))), some (.inl a), some (.inl b), some (.inl c), some (.inl d)]) (st' := [.inl a]) (m' := (f, l)) rfl rfl (fl_bo rfl) rfl ?_
  refine fl_Tq.cI (c := (0 : Int32)) rfl (by decide +kernel) (fl_bo rfl) ?_
  refine fl_Tq.stp (pc' := 3) (lv' := [some (.inr (.inr (.inl (16, 16)))), some (.inl a), some (.inl b), some (.inl c), some (.inl d)]) (st' := [.inr (.inr (.inl (16, 16))), .inl (0 : Int32), .inl a]) (m' := (f, l)) rfl rfl (fl_bo rfl) rfl ?_
  refine fl_Tq.gfV (k := 3) (v := f 16 3) rfl (fl_bo rfl) rfl rfl ?_
  refine fl_Tq.cI (c := (1 : Int32)) rfl (by decide +kernel) (fl_bo rfl) ?_
  refine fl_Tq.stp (pc' := 8) (lv' := [some (.inr (.inr (.inl (16, 16)))), some (.inl a), some (.inl b), some (.inl c), some (.inl d)]) (st' := [.inl ((f 16 3) - (1 : Int32)), .inl (0 : Int32), .inl a]) (m' := (f, l)) rfl rfl (fl_bo rfl) rfl ?_
  refine fl_Tq.cal rfl rfl (fl_bo rfl) rfl ?_
  refine t2_within_q  ?_
  show fl_Tq _ 28 11 [some (.inr (.inr (.inl (16, 16)))), some (.inl a), some (.inl b), some (.inl c), some (.inl d)] [.inl (t2_within_v a (0 : Int32) ((f 16 3) - (1 : Int32)))] (f, l) _
  by_cases h1 : (t2_within_v a (0 : Int32) ((f 16 3) - (1 : Int32))).toInt = 0
  · refine fl_Tq.zt rfl (fl_bo rfl) (c1_eq_t h1) rfl ?_
    refine fl_Tq.stp (pc' := 27) (lv' := [some (.inr (.inr (.inl (16, 16)))), some (.inl a), some (.inl b), some (.inl c), some (.inl d)]) (st' := [.inl d]) (m' := (f, l)) rfl rfl (fl_bo rfl) rfl ?_
    exact fl_Tq.ret rfl rfl rfl (k h1)
  · refine fl_Tq.zf rfl (fl_bo rfl) (c1_eq_f h1) rfl ?_
    refine fl_Tq.stp (pc' := 15) (lv' := [some (.inr (.inr (.inl (16, 16)))), some (.inl a), some (.inl b), some (.inl c), some (.inl d)]) (st' := [.inl b]) (m' := (f, l)) rfl rfl (fl_bo rfl) rfl ?_
    refine fl_Tq.cI (c := (0 : Int32)) rfl (by decide +kernel) (fl_bo rfl) ?_
    refine fl_Tq.stp (pc' := 17) (lv' := [some (.inr (.inr (.inl (16, 16)))), some (.inl a), some (.inl b), some (.inl c), some (.inl d)]) (st' := [.inl c, .inl (0 : Int32), .inl b]) (m' := (f, l)) rfl rfl (fl_bo rfl) rfl ?_
    refine fl_Tq.cI (c := (1 : Int32)) rfl (by decide +kernel) (fl_bo rfl) ?_
    refine fl_Tq.stp (pc' := 19) (lv' := [some (.inr (.inr (.inl (16, 16)))), some (.inl a), some (.inl b), some (.inl c), some (.inl d)]) (st' := [.inl (c - (1 : Int32)), .inl (0 : Int32), .inl b]) (m' := (f, l)) rfl rfl (fl_bo rfl) rfl ?_
    refine fl_Tq.cal rfl rfl (fl_bo rfl) rfl ?_
    refine t2_within_q  ?_
    show fl_Tq _ 28 22 [some (.inr (.inr (.inl (16, 16)))), some (.inl a), some (.inl b), some (.inl c), some (.inl d)] [.inl (t2_within_v b (0 : Int32) (c - (1 : Int32)))] (f, l) _
    by_cases h2 : (t2_within_v b (0 : Int32) (c - (1 : Int32))).toInt = 0
    · refine fl_Tq.zf rfl (fl_bo rfl) (c1_ne_f h2) rfl ?_
      refine fl_Tq.stp (pc' := 27) (lv' := [some (.inr (.inr (.inl (16, 16)))), some (.inl a), some (.inl b), some (.inl c), some (.inl d)]) (st' := [.inl d]) (m' := (f, l)) rfl rfl (fl_bo rfl) rfl ?_
      exact fl_Tq.ret rfl rfl rfl (k1 h1 h2)
    · refine fl_Tq.zt rfl (fl_bo rfl) (c1_ne_t h2) rfl ?_
      exact k2 h1 h2
theorem x_tr_A {L : Nat} {xs : Nat → Int32} {f : t2_F} {l : t2_L} {Q : Option fl_V → fl_M → Prop} {a b : Int32}  (k : (a.toInt = (-1 : Int32).toInt) → Q (some (.inl (f 16 3))) (f, l)) (k1 : (¬ (a.toInt = (-1 : Int32).toInt)) → fl_Tq (pw_P L xs) 133 30 [some (.inr (.inr (.inl (0, 0)))), some (.inl a), some (.inl b)] [.inl (-1000000000 : Int32), .inl (3 : Int32), .inl b, .inl a, .inr (.inr (.inl (16, 16)))] (f, l) Q) : fl_Tq (pw_P L xs) 133 0 [some (.inr (.inr (.inl (0, 0)))), some (.inl a), some (.inl b)] [] (f, l) Q := by
  refine fl_Tq.stp (pc' := 1) (lv' := [some (.inr (.inr (.inl (0, 0)))), some (.inl a), some (.inl b)]) (st' := [.inl a]) (m' := (f, l)) rfl rfl (fl_bo rfl) rfl ?_
  refine fl_Tq.cI (c := (-1 : Int32)) rfl (by decide +kernel) (fl_bo rfl) ?_
  by_cases h1 : a.toInt = (-1 : Int32).toInt
  · refine fl_Tq.jf rfl (fl_bo rfl) (c2_ne_f h1) rfl ?_
    refine fl_Tq.stp (pc' := 6) (lv' := [some (.inr (.inr (.inl (0, 0)))), some (.inl a), some (.inl b)]) (st' := [.inr (.inr (.inl (0, 0)))]) (m' := (f, l)) rfl rfl (fl_bo rfl) rfl ?_
    refine fl_Tq.stp (pc' := 9) (lv' := [some (.inr (.inr (.inl (0, 0)))), some (.inl a), some (.inl b)]) (st' := [.inr (.inr (.inl (1, 1)))]) (m' := (f, l)) rfl rfl (fl_bo rfl) rfl ?_
    refine fl_Tq.stp (pc' := 12) (lv' := [some (.inr (.inr (.inl (0, 0)))), some (.inl a), some (.inl b)]) (st' := [.inr (.inr (.inl (16, 16)))]) (m' := (f, l)) rfl rfl (fl_bo rfl) rfl ?_
    refine fl_Tq.gfV (k := 3) (v := f 16 3) rfl (fl_bo rfl) rfl rfl ?_
    refine fl_Tq.stp (pc' := 33) (lv' := [some (.inr (.inr (.inl (0, 0)))), some (.inl a), some (.inl b)]) (st' := [.inl (f 16 3)]) (m' := (f, l)) rfl rfl (fl_bo rfl) rfl ?_
    exact fl_Tq.ret rfl rfl rfl (k h1)
  · refine fl_Tq.jt rfl (fl_bo rfl) (c2_ne_t h1) rfl ?_
    refine fl_Tq.stp (pc' := 19) (lv' := [some (.inr (.inr (.inl (0, 0)))), some (.inl a), some (.inl b)]) (st' := [.inr (.inr (.inl (0, 0)))]) (m' := (f, l)) rfl rfl (fl_bo rfl) rfl ?_
    refine fl_Tq.stp (pc' := 22) (lv' := [some (.inr (.inr (.inl (0, 0)))), some (.inl a), some (.inl b)]) (st' := [.inr (.inr (.inl (1, 1)))]) (m' := (f, l)) rfl rfl (fl_bo rfl) rfl ?_
    refine fl_Tq.stp (pc' := 25) (lv' := [some (.inr (.inr (.inl (0, 0)))), some (.inl a), some (.inl b)]) (st' := [.inr (.inr (.inl (16, 16)))]) (m' := (f, l)) rfl rfl (fl_bo rfl) rfl ?_
    refine fl_Tq.stp (pc' := 26) (lv' := [some (.inr (.inr (.inl (0, 0)))), some (.inl a), some (.inl b)]) (st' := [.inl a, .inr (.inr (.inl (16, 16)))]) (m' := (f, l)) rfl rfl (fl_bo rfl) rfl ?_
    refine fl_Tq.stp (pc' := 27) (lv' := [some (.inr (.inr (.inl (0, 0)))), some (.inl a), some (.inl b)]) (st' := [.inl b, .inl a, .inr (.inr (.inl (16, 16)))]) (m' := (f, l)) rfl rfl (fl_bo rfl) rfl ?_
    refine fl_Tq.cI (c := (3 : Int32)) rfl (by decide +kernel) (fl_bo rfl) ?_
    refine fl_Tq.stp (pc' := 30) (lv' := [some (.inr (.inr (.inl (0, 0)))), some (.inl a), some (.inl b)]) (st' := [.inl (-1000000000 : Int32), .inl (3 : Int32), .inl b, .inl a, .inr (.inr (.inl (16, 16)))]) (m' := (f, l)) rfl rfl (fl_bo rfl) rfl ?_
    exact k1 h1
theorem x_tr_B {L : Nat} {xs : Nat → Int32} {f : t2_F} {l : t2_L} {Q : Option fl_V → fl_M → Prop} {a b z : Int32}  (k : Q (some (.inl z)) (f, l)) : fl_Tq (pw_P L xs) 133 33 [some (.inr (.inr (.inl (0, 0)))), some (.inl a), some (.inl b)] [.inl z] (f, l) Q := by
  exact fl_Tq.ret rfl rfl rfl k
theorem y_tr_A {L : Nat} {xs : Nat → Int32} {f : t2_F} {l : t2_L} {Q : Option fl_V → fl_M → Prop} {a b : Int32}  (k : (a.toInt = (-1 : Int32).toInt) → Q (some (.inl (f 280 21))) (f, l)) (k1 : (¬ (a.toInt = (-1 : Int32).toInt)) → ((r_isIn_v a (0 : Int32) ((f 280 21) - (1 : Int32))).toInt = 0) → Q (some (.inl (-1000000000 : Int32))) (f, l)) (k2 : (¬ (a.toInt = (-1 : Int32).toInt)) → (¬ ((r_isIn_v a (0 : Int32) ((f 280 21) - (1 : Int32))).toInt = 0)) → ((r_isIn_v b (0 : Int32) (2 : Int32)).toInt = 0) → Q (some (.inl (-1000000000 : Int32))) (f, l)) (k3 : (¬ (a.toInt = (-1 : Int32).toInt)) → (¬ ((r_isIn_v a (0 : Int32) ((f 280 21) - (1 : Int32))).toInt = 0)) → (¬ ((r_isIn_v b (0 : Int32) (2 : Int32)).toInt = 0)) → fl_Tq (pw_P L xs) 280 39 [some (.inr (.inr (.inl (76, 277)))), some (.inl a), some (.inl b)] [] (f, l) Q) : fl_Tq (pw_P L xs) 280 0 [some (.inr (.inr (.inl (76, 277)))), some (.inl a), some (.inl b)] [] (f, l) Q := by
  refine fl_Tq.stp (pc' := 1) (lv' := [some (.inr (.inr (.inl (76, 277)))), some (.inl a), some (.inl b)]) (st' := [.inl a]) (m' := (f, l)) rfl rfl (fl_bo rfl) rfl ?_
  refine fl_Tq.cI (c := (-1 : Int32)) rfl (by decide +kernel) (fl_bo rfl) ?_
  by_cases h1 : a.toInt = (-1 : Int32).toInt
  · refine fl_Tq.jf rfl (fl_bo rfl) (c2_ne_f h1) rfl ?_
    refine fl_Tq.stp (pc' := 6) (lv' := [some (.inr (.inr (.inl (76, 277)))), some (.inl a), some (.inl b)]) (st' := [.inr (.inr (.inl (76, 277)))]) (m' := (f, l)) rfl rfl (fl_bo rfl) rfl ?_
    refine fl_Tq.stp (pc' := 9) (lv' := [some (.inr (.inr (.inl (76, 277)))), some (.inl a), some (.inl b)]) (st' := [.inr (.inr (.inl (79, 280)))]) (m' := (f, l)) rfl rfl (fl_bo rfl) rfl ?_
    refine fl_Tq.cB (c := (21 : Int32)) rfl (by decide +kernel) (fl_bo rfl) ?_
    refine fl_Tq.ldV (p := 280) (τ := 79) (n := 29780) (z := (0, 0, 0)) (k := 21) (v := f 280 21) rfl (fl_bo rfl) rfl (by decide +kernel) (by decide) rfl ?_
    exact fl_Tq.ret rfl rfl rfl (k h1)
  · refine fl_Tq.jt rfl (fl_bo rfl) (c2_ne_t h1) rfl ?_
    refine fl_Tq.stp (pc' := 14) (lv' := [some (.inr (.inr (.inl (76, 277)))), some (.inl a), some (.inl b)]) (st' := [.inl a]) (m' := (f, l)) rfl rfl (fl_bo rfl) rfl ?_
    refine fl_Tq.cI (c := (0 : Int32)) rfl (by decide +kernel) (fl_bo rfl) ?_
    refine fl_Tq.stp (pc' := 16) (lv' := [some (.inr (.inr (.inl (76, 277)))), some (.inl a), some (.inl b)]) (st' := [.inr (.inr (.inl (76, 277))), .inl (0 : Int32), .inl a]) (m' := (f, l)) rfl rfl (fl_bo rfl) rfl ?_
    refine fl_Tq.stp (pc' := 19) (lv' := [some (.inr (.inr (.inl (76, 277)))), some (.inl a), some (.inl b)]) (st' := [.inr (.inr (.inl (79, 280))), .inl (0 : Int32), .inl a]) (m' := (f, l)) rfl rfl (fl_bo rfl) rfl ?_
    refine fl_Tq.cB (c := (21 : Int32)) rfl (by decide +kernel) (fl_bo rfl) ?_
    refine fl_Tq.ldV (p := 280) (τ := 79) (n := 29780) (z := (0, 0, 0)) (k := 21) (v := f 280 21) rfl (fl_bo rfl) rfl (by decide +kernel) (by decide) rfl ?_
    refine fl_Tq.cI (c := (1 : Int32)) rfl (by decide +kernel) (fl_bo rfl) ?_
    refine fl_Tq.stp (pc' := 24) (lv' := [some (.inr (.inr (.inl (76, 277)))), some (.inl a), some (.inl b)]) (st' := [.inl ((f 280 21) - (1 : Int32)), .inl (0 : Int32), .inl a]) (m' := (f, l)) rfl rfl (fl_bo rfl) rfl ?_
    refine fl_Tq.cal rfl rfl (fl_bo rfl) rfl ?_
    refine r_isIn_q  ?_
    show fl_Tq _ 280 27 [some (.inr (.inr (.inl (76, 277)))), some (.inl a), some (.inl b)] [.inl (r_isIn_v a (0 : Int32) ((f 280 21) - (1 : Int32)))] (f, l) _
    by_cases h2 : (r_isIn_v a (0 : Int32) ((f 280 21) - (1 : Int32))).toInt = 0
    · refine fl_Tq.zt rfl (fl_bo rfl) (c1_eq_t h2) rfl ?_
      refine fl_Tq.stp (pc' := 59) (lv' := [some (.inr (.inr (.inl (76, 277)))), some (.inl a), some (.inl b)]) (st' := [.inl (-1000000000 : Int32)]) (m' := (f, l)) rfl rfl (fl_bo rfl) rfl ?_
      exact fl_Tq.ret rfl rfl rfl (k1 h1 h2)
    · refine fl_Tq.zf rfl (fl_bo rfl) (c1_eq_f h2) rfl ?_
      refine fl_Tq.stp (pc' := 31) (lv' := [some (.inr (.inr (.inl (76, 277)))), some (.inl a), some (.inl b)]) (st' := [.inl b]) (m' := (f, l)) rfl rfl (fl_bo rfl) rfl ?_
      refine fl_Tq.cI (c := (0 : Int32)) rfl (by decide +kernel) (fl_bo rfl) ?_
      refine fl_Tq.cI (c := (2 : Int32)) rfl (by decide +kernel) (fl_bo rfl) ?_
      refine fl_Tq.cal rfl rfl (fl_bo rfl) rfl ?_
      refine r_isIn_q  ?_
      show fl_Tq _ 280 36 [some (.inr (.inr (.inl (76, 277)))), some (.inl a), some (.inl b)] [.inl (r_isIn_v b (0 : Int32) (2 : Int32))] (f, l) _
      by_cases h3 : (r_isIn_v b (0 : Int32) (2 : Int32)).toInt = 0
      · refine fl_Tq.zt rfl (fl_bo rfl) (c1_eq_t h3) rfl ?_
        refine fl_Tq.stp (pc' := 59) (lv' := [some (.inr (.inr (.inl (76, 277)))), some (.inl a), some (.inl b)]) (st' := [.inl (-1000000000 : Int32)]) (m' := (f, l)) rfl rfl (fl_bo rfl) rfl ?_
        exact fl_Tq.ret rfl rfl rfl (k2 h1 h2 h3)
      · refine fl_Tq.zf rfl (fl_bo rfl) (c1_eq_f h3) rfl ?_
        exact k3 h1 h2 h3
theorem x_fo_A {L : Nat} {xs : Nat → Int32} {f : t2_F} {l : t2_L} {Q : Option fl_V → fl_M → Prop} {a b : Int32}  (k : ((t2_within_v a (1 : Int32) (300 : Int32)).toInt = 0) → Q (some (.inl (-1000000000 : Int32))) (f, l)) (k1 : (¬ ((t2_within_v a (1 : Int32) (300 : Int32)).toInt = 0)) → fl_Tq (pw_P L xs) 159 22 [some (.inr (.inr (.inl (0, 0)))), some (.inl a), some (.inl b)] [.inr (.inr (.inl (1, 1))), .inr (.inr (.inl (49, 181)))] (f, l) Q) : fl_Tq (pw_P L xs) 159 0 [some (.inr (.inr (.inl (0, 0)))), some (.inl a), some (.inl b)] [] (f, l) Q := by
  refine fl_Tq.stp (pc' := 1) (lv' := [some (.inr (.inr (.inl (0, 0)))), some (.inl a), some (.inl b)]) (st' := [.inl a]) (m' := (f, l)) rfl rfl (fl_bo rfl) rfl ?_
  refine fl_Tq.cI (c := (1 : Int32)) rfl (by decide +kernel) (fl_bo rfl) ?_
  refine fl_Tq.cS (c := (300 : Int32)) rfl (by decide +kernel) (fl_bo rfl) ?_
  refine fl_Tq.cal rfl rfl (fl_bo rfl) rfl ?_
  refine t2_within_q  ?_
  show fl_Tq _ 159 8 [some (.inr (.inr (.inl (0, 0)))), some (.inl a), some (.inl b)] [.inl (t2_within_v a (1 : Int32) (300 : Int32))] (f, l) _
  by_cases h1 : (t2_within_v a (1 : Int32) (300 : Int32)).toInt = 0
  · refine fl_Tq.zf rfl (fl_bo rfl) (c1_ne_f h1) rfl ?_
    refine fl_Tq.stp (pc' := 13) (lv' := [some (.inr (.inr (.inl (0, 0)))), some (.inl a), some (.inl b)]) (st' := [.inl (-1000000000 : Int32)]) (m' := (f, l)) rfl rfl (fl_bo rfl) rfl ?_
    exact fl_Tq.ret rfl rfl rfl (k h1)
  · refine fl_Tq.zt rfl (fl_bo rfl) (c1_ne_t h1) rfl ?_
    refine fl_Tq.stp (pc' := 15) (lv' := [some (.inr (.inr (.inl (0, 0)))), some (.inl a), some (.inl b)]) (st' := [.inr (.inr (.inl (0, 0)))]) (m' := (f, l)) rfl rfl (fl_bo rfl) rfl ?_
    refine fl_Tq.stp (pc' := 18) (lv' := [some (.inr (.inr (.inl (0, 0)))), some (.inl a), some (.inl b)]) (st' := [.inr (.inr (.inl (49, 181)))]) (m' := (f, l)) rfl rfl (fl_bo rfl) rfl ?_
    refine fl_Tq.stp (pc' := 19) (lv' := [some (.inr (.inr (.inl (0, 0)))), some (.inl a), some (.inl b)]) (st' := [.inr (.inr (.inl (0, 0))), .inr (.inr (.inl (49, 181)))]) (m' := (f, l)) rfl rfl (fl_bo rfl) rfl ?_
    refine fl_Tq.stp (pc' := 22) (lv' := [some (.inr (.inr (.inl (0, 0)))), some (.inl a), some (.inl b)]) (st' := [.inr (.inr (.inl (1, 1))), .inr (.inr (.inl (49, 181)))]) (m' := (f, l)) rfl rfl (fl_bo rfl) rfl ?_
    exact k1 h1
theorem x_fo_B {L : Nat} {xs : Nat → Int32} {f : t2_F} {l : t2_L} {Q : Option fl_V → fl_M → Prop} {a b : Int32}  (k : fl_Tq (pw_P L xs) 159 30 [some (.inr (.inr (.inl (0, 0)))), some (.inl a), some (.inl b)] [.inl a, .inr (.inr (.inl (49, 181)))] (f, l) Q) : fl_Tq (pw_P L xs) 159 25 [some (.inr (.inr (.inl (0, 0)))), some (.inl a), some (.inl b)] [] (f, l) Q := by
  refine fl_Tq.stp (pc' := 26) (lv' := [some (.inr (.inr (.inl (0, 0)))), some (.inl a), some (.inl b)]) (st' := [.inr (.inr (.inl (0, 0)))]) (m' := (f, l)) rfl rfl (fl_bo rfl) rfl ?_
  refine fl_Tq.stp (pc' := 29) (lv' := [some (.inr (.inr (.inl (0, 0)))), some (.inl a), some (.inl b)]) (st' := [.inr (.inr (.inl (49, 181)))]) (m' := (f, l)) rfl rfl (fl_bo rfl) rfl ?_
  refine fl_Tq.stp (pc' := 30) (lv' := [some (.inr (.inr (.inl (0, 0)))), some (.inl a), some (.inl b)]) (st' := [.inl a, .inr (.inr (.inl (49, 181)))]) (m' := (f, l)) rfl rfl (fl_bo rfl) rfl ?_
  exact k
theorem x_fo_C {L : Nat} {xs : Nat → Int32} {f : t2_F} {l : t2_L} {Q : Option fl_V → fl_M → Prop} {a b z : Int32}  (k : fl_Tq (pw_P L xs) 159 39 [some (.inr (.inr (.inl (0, 0)))), some (.inl a), some (.inl b)] [.inl b, .inr (.inr (.inl (49, 181)))] (f, l) Q) : fl_Tq (pw_P L xs) 159 33 [some (.inr (.inr (.inl (0, 0)))), some (.inl a), some (.inl b)] [.inl z] (f, l) Q := by
  refine fl_Tq.stp (pc' := 34) (lv' := [some (.inr (.inr (.inl (0, 0)))), some (.inl a), some (.inl b)]) (st' := []) (m' := (f, l)) rfl rfl (fl_bo rfl) rfl ?_
  refine fl_Tq.stp (pc' := 35) (lv' := [some (.inr (.inr (.inl (0, 0)))), some (.inl a), some (.inl b)]) (st' := [.inr (.inr (.inl (0, 0)))]) (m' := (f, l)) rfl rfl (fl_bo rfl) rfl ?_
  refine fl_Tq.stp (pc' := 38) (lv' := [some (.inr (.inr (.inl (0, 0)))), some (.inl a), some (.inl b)]) (st' := [.inr (.inr (.inl (49, 181)))]) (m' := (f, l)) rfl rfl (fl_bo rfl) rfl ?_
  refine fl_Tq.stp (pc' := 39) (lv' := [some (.inr (.inr (.inl (0, 0)))), some (.inl a), some (.inl b)]) (st' := [.inl b, .inr (.inr (.inl (49, 181)))]) (m' := (f, l)) rfl rfl (fl_bo rfl) rfl ?_
  exact k
theorem x_fo_D {L : Nat} {xs : Nat → Int32} {f : t2_F} {l : t2_L} {Q : Option fl_V → fl_M → Prop} {a b z : Int32}  (k : Q (some (.inl z)) (f, l)) : fl_Tq (pw_P L xs) 159 42 [some (.inr (.inr (.inl (0, 0)))), some (.inl a), some (.inl b)] [.inl z] (f, l) Q := by
  exact fl_Tq.ret rfl rfl rfl k
theorem x_fc_A {L : Nat} {xs : Nat → Int32} {f : t2_F} {l : t2_L} {Q : Option fl_V → fl_M → Prop} {a b c : Int32}  (k : ((t2_within_v a (1 : Int32) (300 : Int32)).toInt = 0) → Q (some (.inl (-1000000000 : Int32))) (f, l)) (k1 : (¬ ((t2_within_v a (1 : Int32) (300 : Int32)).toInt = 0)) → fl_Tq (pw_P L xs) 160 22 [some (.inr (.inr (.inl (0, 0)))), some (.inl a), some (.inl b), some (.inl c)] [.inr (.inr (.inl (1, 1))), .inr (.inr (.inl (49, 181)))] (f, l) Q) : fl_Tq (pw_P L xs) 160 0 [some (.inr (.inr (.inl (0, 0)))), some (.inl a), some (.inl b), some (.inl c)] [] (f, l) Q := by
  refine fl_Tq.stp (pc' := 1) (lv' := [some (.inr (.inr (.inl (0, 0)))), some (.inl a), some (.inl b), some (.inl c)]) (st' := [.inl a]) (m' := (f, l)) rfl rfl (fl_bo rfl) rfl ?_
  refine fl_Tq.cI (c := (1 : Int32)) rfl (by decide +kernel) (fl_bo rfl) ?_
  refine fl_Tq.cS (c := (300 : Int32)) rfl (by decide +kernel) (fl_bo rfl) ?_
  refine fl_Tq.cal rfl rfl (fl_bo rfl) rfl ?_
  refine t2_within_q  ?_
  show fl_Tq _ 160 8 [some (.inr (.inr (.inl (0, 0)))), some (.inl a), some (.inl b), some (.inl c)] [.inl (t2_within_v a (1 : Int32) (300 : Int32))] (f, l) _
  by_cases h1 : (t2_within_v a (1 : Int32) (300 : Int32)).toInt = 0
  · refine fl_Tq.zf rfl (fl_bo rfl) (c1_ne_f h1) rfl ?_
    refine fl_Tq.stp (pc' := 13) (lv' := [some (.inr (.inr (.inl (0, 0)))), some (.inl a), some (.inl b), some (.inl c)]) (st' := [.inl (-1000000000 : Int32)]) (m' := (f, l)) rfl rfl (fl_bo rfl) rfl ?_
    exact fl_Tq.ret rfl rfl rfl (k h1)
  · refine fl_Tq.zt rfl (fl_bo rfl) (c1_ne_t h1) rfl ?_
    refine fl_Tq.stp (pc' := 15) (lv' := [some (.inr (.inr (.inl (0, 0)))), some (.inl a), some (.inl b), some (.inl c)]) (st' := [.inr (.inr (.inl (0, 0)))]) (m' := (f, l)) rfl rfl (fl_bo rfl) rfl ?_
    refine fl_Tq.stp (pc' := 18) (lv' := [some (.inr (.inr (.inl (0, 0)))), some (.inl a), some (.inl b), some (.inl c)]) (st' := [.inr (.inr (.inl (49, 181)))]) (m' := (f, l)) rfl rfl (fl_bo rfl) rfl ?_
    refine fl_Tq.stp (pc' := 19) (lv' := [some (.inr (.inr (.inl (0, 0)))), some (.inl a), some (.inl b), some (.inl c)]) (st' := [.inr (.inr (.inl (0, 0))), .inr (.inr (.inl (49, 181)))]) (m' := (f, l)) rfl rfl (fl_bo rfl) rfl ?_
    refine fl_Tq.stp (pc' := 22) (lv' := [some (.inr (.inr (.inl (0, 0)))), some (.inl a), some (.inl b), some (.inl c)]) (st' := [.inr (.inr (.inl (1, 1))), .inr (.inr (.inl (49, 181)))]) (m' := (f, l)) rfl rfl (fl_bo rfl) rfl ?_
    exact k1 h1
theorem x_fc_B {L : Nat} {xs : Nat → Int32} {f : t2_F} {l : t2_L} {Q : Option fl_V → fl_M → Prop} {a b c : Int32}  (k : fl_Tq (pw_P L xs) 160 30 [some (.inr (.inr (.inl (0, 0)))), some (.inl a), some (.inl b), some (.inl c)] [.inl a, .inr (.inr (.inl (49, 181)))] (f, l) Q) : fl_Tq (pw_P L xs) 160 25 [some (.inr (.inr (.inl (0, 0)))), some (.inl a), some (.inl b), some (.inl c)] [] (f, l) Q := by
  refine fl_Tq.stp (pc' := 26) (lv' := [some (.inr (.inr (.inl (0, 0)))), some (.inl a), some (.inl b), some (.inl c)]) (st' := [.inr (.inr (.inl (0, 0)))]) (m' := (f, l)) rfl rfl (fl_bo rfl) rfl ?_
  refine fl_Tq.stp (pc' := 29) (lv' := [some (.inr (.inr (.inl (0, 0)))), some (.inl a), some (.inl b), some (.inl c)]) (st' := [.inr (.inr (.inl (49, 181)))]) (m' := (f, l)) rfl rfl (fl_bo rfl) rfl ?_
  refine fl_Tq.stp (pc' := 30) (lv' := [some (.inr (.inr (.inl (0, 0)))), some (.inl a), some (.inl b), some (.inl c)]) (st' := [.inl a, .inr (.inr (.inl (49, 181)))]) (m' := (f, l)) rfl rfl (fl_bo rfl) rfl ?_
  exact k
theorem x_fc_C {L : Nat} {xs : Nat → Int32} {f : t2_F} {l : t2_L} {Q : Option fl_V → fl_M → Prop} {a b c z : Int32}  (k : fl_Tq (pw_P L xs) 160 40 [some (.inr (.inr (.inl (0, 0)))), some (.inl a), some (.inl b), some (.inl c)] [.inl c, .inl b, .inr (.inr (.inl (49, 181)))] (f, l) Q) : fl_Tq (pw_P L xs) 160 33 [some (.inr (.inr (.inl (0, 0)))), some (.inl a), some (.inl b), some (.inl c)] [.inl z] (f, l) Q := by
  refine fl_Tq.stp (pc' := 34) (lv' := [some (.inr (.inr (.inl (0, 0)))), some (.inl a), some (.inl b), some (.inl c)]) (st' := []) (m' := (f, l)) rfl rfl (fl_bo rfl) rfl ?_
  refine fl_Tq.stp (pc' := 35) (lv' := [some (.inr (.inr (.inl (0, 0)))), some (.inl a), some (.inl b), some (.inl c)]) (st' := [.inr (.inr (.inl (0, 0)))]) (m' := (f, l)) rfl rfl (fl_bo rfl) rfl ?_
  refine fl_Tq.stp (pc' := 38) (lv' := [some (.inr (.inr (.inl (0, 0)))), some (.inl a), some (.inl b), some (.inl c)]) (st' := [.inr (.inr (.inl (49, 181)))]) (m' := (f, l)) rfl rfl (fl_bo rfl) rfl ?_
  refine fl_Tq.stp (pc' := 39) (lv' := [some (.inr (.inr (.inl (0, 0)))), some (.inl a), some (.inl b), some (.inl c)]) (st' := [.inl b, .inr (.inr (.inl (49, 181)))]) (m' := (f, l)) rfl rfl (fl_bo rfl) rfl ?_
  refine fl_Tq.stp (pc' := 40) (lv' := [some (.inr (.inr (.inl (0, 0)))), some (.inl a), some (.inl b), some (.inl c)]) (st' := [.inl c, .inl b, .inr (.inr (.inl (49, 181)))]) (m' := (f, l)) rfl rfl (fl_bo rfl) rfl ?_
  exact k
theorem x_fc_D {L : Nat} {xs : Nat → Int32} {f : t2_F} {l : t2_L} {Q : Option fl_V → fl_M → Prop} {a b c z : Int32}  (k : Q (some (.inl z)) (f, l)) : fl_Tq (pw_P L xs) 160 43 [some (.inr (.inr (.inl (0, 0)))), some (.inl a), some (.inl b), some (.inl c)] [.inl z] (f, l) Q := by
  exact fl_Tq.ret rfl rfl rfl k
theorem x_to2_A {L : Nat} {xs : Nat → Int32} {f : t2_F} {l : t2_L} {Q : Option fl_V → fl_M → Prop} {a b : Int32}  (k : ((t2_within_v a (0 : Int32) ((f 181 5) - (1 : Int32))).toInt = 0) → Q (some (.inl (-1000000000 : Int32))) (f, l)) (k1 : (¬ ((t2_within_v a (0 : Int32) ((f 181 5) - (1 : Int32))).toInt = 0)) → fl_Tq (pw_P L xs) 73 8 [some (.inr (.inr (.inl (49, 181)))), some (.inl a), some (.inl b)] [] (f, l) Q) : fl_Tq (pw_P L xs) 73 0 [some (.inr (.inr (.inl (49, 181)))), some (.inl a), some (.inl b)] [] (f, l) Q := by
  refine fl_Tq.stp (pc' := 1) (lv' := [some (.inr (.inr (.inl (49, 181)))), some (.inl a), some (.inl b)]) (st' := [.inr (.inr (.inl (49, 181)))]) (m' := (f, l)) rfl rfl (fl_bo rfl) rfl ?_
  refine fl_Tq.stp (pc' := 2) (lv' := [some (.inr (.inr (.inl (49, 181)))), some (.inl a), some (.inl b)]) (st' := [.inl a, .inr (.inr (.inl (49, 181)))]) (m' := (f, l)) rfl rfl (fl_bo rfl) rfl ?_
  refine fl_Tq.cal rfl rfl (fl_bo rfl) rfl ?_
  refine fl_Tq.stp (pc' := 1) (lv' := [some (.inr (.inr (.inl (49, 181)))), some (.inl a)]) (st' := [.inl a]) (m' := (f, l)) rfl rfl (fl_bo rfl) rfl ?_
  refine fl_Tq.cI (c := (0 : Int32)) rfl (by decide +kernel) (fl_bo rfl) ?_
  refine fl_Tq.stp (pc' := 3) (lv' := [some (.inr (.inr (.inl (49, 181)))), some (.inl a)]) (st' := [.inr (.inr (.inl (49, 181))), .inl (0 : Int32), .inl a]) (m' := (f, l)) rfl rfl (fl_bo rfl) rfl ?_
  refine fl_Tq.gfV (k := 5) (v := f 181 5) rfl (fl_bo rfl) rfl rfl ?_
  refine fl_Tq.cI (c := (1 : Int32)) rfl (by decide +kernel) (fl_bo rfl) ?_
  refine fl_Tq.stp (pc' := 8) (lv' := [some (.inr (.inr (.inl (49, 181)))), some (.inl a)]) (st' := [.inl ((f 181 5) - (1 : Int32)), .inl (0 : Int32), .inl a]) (m' := (f, l)) rfl rfl (fl_bo rfl) rfl ?_
  refine fl_Tq.cal rfl rfl (fl_bo rfl) rfl ?_
  refine t2_within_q  ?_
  show fl_Tq _ 34 11 [some (.inr (.inr (.inl (49, 181)))), some (.inl a)] [.inl (t2_within_v a (0 : Int32) ((f 181 5) - (1 : Int32)))] (f, l) _
  refine fl_Tq.ret rfl rfl (if_pos t2_w01) ?_
  show fl_Tq _ 73 5 [some (.inr (.inr (.inl (49, 181)))), some (.inl a), some (.inl b)] [.inl (t2_within_v a (0 : Int32) ((f 181 5) - (1 : Int32)))] (f, l) _
  by_cases h1 : (t2_within_v a (0 : Int32) ((f 181 5) - (1 : Int32))).toInt = 0
  · refine fl_Tq.zt rfl (fl_bo rfl) (c1_eq_t h1) rfl ?_
    refine fl_Tq.stp (pc' := 28) (lv' := [some (.inr (.inr (.inl (49, 181)))), some (.inl a), some (.inl b)]) (st' := [.inl (-1000000000 : Int32)]) (m' := (f, l)) rfl rfl (fl_bo rfl) rfl ?_
    exact fl_Tq.ret rfl rfl rfl (k h1)
  · refine fl_Tq.zf rfl (fl_bo rfl) (c1_eq_f h1) rfl ?_
    exact k1 h1
theorem y_o1_A {L : Nat} {xs : Nat → Int32} {f : t2_F} {l : t2_L} {Q : Option fl_V → fl_M → Prop} {a b : Int32}  (k : ((r_isCell_v f a).toInt = 0) → Q (some (.inl (-1000000000 : Int32))) (f, l)) (k1 : (¬ ((r_isCell_v f a).toInt = 0)) → fl_Tq (pw_P L xs) 271 8 [some (.inr (.inr (.inl (76, 277)))), some (.inl a), some (.inl b)] [] (f, l) Q) : fl_Tq (pw_P L xs) 271 0 [some (.inr (.inr (.inl (76, 277)))), some (.inl a), some (.inl b)] [] (f, l) Q := by
  refine fl_Tq.stp (pc' := 1) (lv' := [some (.inr (.inr (.inl (76, 277)))), some (.inl a), some (.inl b)]) (st' := [.inr (.inr (.inl (76, 277)))]) (m' := (f, l)) rfl rfl (fl_bo rfl) rfl ?_
  refine fl_Tq.stp (pc' := 2) (lv' := [some (.inr (.inr (.inl (76, 277)))), some (.inl a), some (.inl b)]) (st' := [.inl a, .inr (.inr (.inl (76, 277)))]) (m' := (f, l)) rfl rfl (fl_bo rfl) rfl ?_
  refine fl_Tq.cal rfl rfl (fl_bo rfl) rfl ?_
  refine r_isCell_q  ?_
  show fl_Tq _ 271 5 [some (.inr (.inr (.inl (76, 277)))), some (.inl a), some (.inl b)] [.inl (r_isCell_v f a)] (f, l) _
  by_cases h1 : (r_isCell_v f a).toInt = 0
  · refine fl_Tq.zt rfl (fl_bo rfl) (c1_eq_t h1) rfl ?_
    refine fl_Tq.stp (pc' := 20) (lv' := [some (.inr (.inr (.inl (76, 277)))), some (.inl a), some (.inl b)]) (st' := [.inl (-1000000000 : Int32)]) (m' := (f, l)) rfl rfl (fl_bo rfl) rfl ?_
    exact fl_Tq.ret rfl rfl rfl (k h1)
  · refine fl_Tq.zf rfl (fl_bo rfl) (c1_eq_f h1) rfl ?_
    exact k1 h1
theorem x_ba_A {L : Nat} {xs : Nat → Int32} {f : t2_F} {l : t2_L} {Q : Option fl_V → fl_M → Prop}   (k : fl_Tq (pw_P L xs) 162 8 [some (.inr (.inr (.inl (0, 0)))), none, none] [.inr (.inr (.inl (1, 1))), .inr (.inr (.inl (49, 181)))] (f, l) Q) : fl_Tq (pw_P L xs) 162 0 [some (.inr (.inr (.inl (0, 0)))), none, none] [] (f, l) Q := by
  refine fl_Tq.stp (pc' := 1) (lv' := [some (.inr (.inr (.inl (0, 0)))), none, none]) (st' := [.inr (.inr (.inl (0, 0)))]) (m' := (f, l)) rfl rfl (fl_bo rfl) rfl ?_
  refine fl_Tq.stp (pc' := 4) (lv' := [some (.inr (.inr (.inl (0, 0)))), none, none]) (st' := [.inr (.inr (.inl (49, 181)))]) (m' := (f, l)) rfl rfl (fl_bo rfl) rfl ?_
  refine fl_Tq.stp (pc' := 5) (lv' := [some (.inr (.inr (.inl (0, 0)))), none, none]) (st' := [.inr (.inr (.inl (0, 0))), .inr (.inr (.inl (49, 181)))]) (m' := (f, l)) rfl rfl (fl_bo rfl) rfl ?_
  refine fl_Tq.stp (pc' := 8) (lv' := [some (.inr (.inr (.inl (0, 0)))), none, none]) (st' := [.inr (.inr (.inl (1, 1))), .inr (.inr (.inl (49, 181)))]) (m' := (f, l)) rfl rfl (fl_bo rfl) rfl ?_
  exact k
theorem x_ba_B {L : Nat} {xs : Nat → Int32} {f : t2_F} {l : t2_L} {Q : Option fl_V → fl_M → Prop}   (k : fl_Tq (pw_P L xs) 162 32 [some (.inr (.inr (.inl (0, 0)))), some (.inl (1 : Int32)), some (.inl (f 181 14))] [.inr (.inr (.inl (49, 181)))] (f, l) Q) : fl_Tq (pw_P L xs) 162 11 [some (.inr (.inr (.inl (0, 0)))), none, none] [] (f, l) Q := by
  refine fl_Tq.cI (c := (1 : Int32)) rfl (by decide +kernel) (fl_bo rfl) ?_
  refine fl_Tq.stp (pc' := 13) (lv' := [some (.inr (.inr (.inl (0, 0)))), some (.inl (1 : Int32)), none]) (st' := []) (m' := (f, l)) rfl rfl (fl_bo rfl) rfl ?_
  refine fl_Tq.stp (pc' := 14) (lv' := [some (.inr (.inr (.inl (0, 0)))), some (.inl (1 : Int32)), none]) (st' := [.inl (1 : Int32)]) (m' := (f, l)) rfl rfl (fl_bo rfl) rfl ?_
  refine fl_Tq.cS (c := (2000 : Int32)) rfl (by decide +kernel) (fl_bo rfl) ?_
  refine fl_Tq.jf rfl (fl_bo rfl) (c2_gt_f (by decide +kernel)) rfl ?_
  refine fl_Tq.stp (pc' := 21) (lv' := [some (.inr (.inr (.inl (0, 0)))), some (.inl (1 : Int32)), none]) (st' := [.inr (.inr (.inl (0, 0)))]) (m' := (f, l)) rfl rfl (fl_bo rfl) rfl ?_
  refine fl_Tq.stp (pc' := 24) (lv' := [some (.inr (.inr (.inl (0, 0)))), some (.inl (1 : Int32)), none]) (st' := [.inr (.inr (.inl (49, 181)))]) (m' := (f, l)) rfl rfl (fl_bo rfl) rfl ?_
  refine fl_Tq.gfV (k := 14) (v := f 181 14) rfl (fl_bo rfl) rfl rfl ?_
  refine fl_Tq.stp (pc' := 28) (lv' := [some (.inr (.inr (.inl (0, 0)))), some (.inl (1 : Int32)), some (.inl (f 181 14))]) (st' := []) (m' := (f, l)) rfl rfl (fl_bo rfl) rfl ?_
  refine fl_Tq.stp (pc' := 29) (lv' := [some (.inr (.inr (.inl (0, 0)))), some (.inl (1 : Int32)), some (.inl (f 181 14))]) (st' := [.inr (.inr (.inl (0, 0)))]) (m' := (f, l)) rfl rfl (fl_bo rfl) rfl ?_
  refine fl_Tq.stp (pc' := 32) (lv' := [some (.inr (.inr (.inl (0, 0)))), some (.inl (1 : Int32)), some (.inl (f 181 14))]) (st' := [.inr (.inr (.inl (49, 181)))]) (m' := (f, l)) rfl rfl (fl_bo rfl) rfl ?_
  exact k
theorem x_ba_C {L : Nat} {xs : Nat → Int32} {f : t2_F} {l : t2_L} {Q : Option fl_V → fl_M → Prop} {b c z : Int32}  (k : ((f 181 16).toInt = 0) → ((f 181 14).toInt = c.toInt) → Q (some (.inl b)) (f, l)) (k1 : ((f 181 16).toInt = 0) → (¬ ((f 181 14).toInt = c.toInt)) → fl_Tq (pw_P L xs) 162 13 [some (.inr (.inr (.inl (0, 0)))), some (.inl (b + (1 : Int32))), some (.inl c)] [] (f, l) Q) (k2 : (¬ ((f 181 16).toInt = 0)) → fl_Tq (pw_P L xs) 162 13 [some (.inr (.inr (.inl (0, 0)))), some (.inl (b + (1 : Int32))), some (.inl c)] [] (f, l) Q) : fl_Tq (pw_P L xs) 162 35 [some (.inr (.inr (.inl (0, 0)))), some (.inl b), some (.inl c)] [.inl z] (f, l) Q := by
  refine fl_Tq.stp (pc' := 36) (lv' := [some (.inr (.inr (.inl (0, 0)))), some (.inl b), some (.inl c)]) (st' := []) (m' := (f, l)) rfl rfl (fl_bo rfl) rfl ?_
  refine fl_Tq.stp (pc' := 37) (lv' := [some (.inr (.inr (.inl (0, 0)))), some (.inl b), some (.inl c)]) (st' := [.inr (.inr (.inl (0, 0)))]) (m' := (f, l)) rfl rfl (fl_bo rfl) rfl ?_
  refine fl_Tq.stp (pc' := 40) (lv' := [some (.inr (.inr (.inl (0, 0)))), some (.inl b), some (.inl c)]) (st' := [.inr (.inr (.inl (49, 181)))]) (m' := (f, l)) rfl rfl (fl_bo rfl) rfl ?_
  refine fl_Tq.gfV (k := 16) (v := f 181 16) rfl (fl_bo rfl) rfl rfl ?_
  by_cases h1 : (f 181 16).toInt = 0
  · refine fl_Tq.zf rfl (fl_bo rfl) (c1_ne_f h1) rfl ?_
    refine fl_Tq.stp (pc' := 47) (lv' := [some (.inr (.inr (.inl (0, 0)))), some (.inl b), some (.inl c)]) (st' := [.inr (.inr (.inl (0, 0)))]) (m' := (f, l)) rfl rfl (fl_bo rfl) rfl ?_
    refine fl_Tq.stp (pc' := 50) (lv' := [some (.inr (.inr (.inl (0, 0)))), some (.inl b), some (.inl c)]) (st' := [.inr (.inr (.inl (49, 181)))]) (m' := (f, l)) rfl rfl (fl_bo rfl) rfl ?_
    refine fl_Tq.gfV (k := 14) (v := f 181 14) rfl (fl_bo rfl) rfl rfl ?_
    refine fl_Tq.stp (pc' := 54) (lv' := [some (.inr (.inr (.inl (0, 0)))), some (.inl b), some (.inl c)]) (st' := [.inl c, .inl (f 181 14)]) (m' := (f, l)) rfl rfl (fl_bo rfl) rfl ?_
    by_cases h2 : (f 181 14).toInt = c.toInt
    · refine fl_Tq.jf rfl (fl_bo rfl) (c2_ne_f h2) rfl ?_
      refine fl_Tq.stp (pc' := 58) (lv' := [some (.inr (.inr (.inl (0, 0)))), some (.inl b), some (.inl c)]) (st' := [.inl b]) (m' := (f, l)) rfl rfl (fl_bo rfl) rfl ?_
      exact fl_Tq.ret rfl rfl rfl (k h1 h2)
    · refine fl_Tq.jt rfl (fl_bo rfl) (c2_ne_t h2) rfl ?_
      refine fl_Tq.stp (pc' := 62) (lv' := [some (.inr (.inr (.inl (0, 0)))), some (.inl (b + (1 : Int32))), some (.inl c)]) (st' := []) (m' := (f, l)) rfl rfl (fl_bo rfl) rfl ?_
      refine fl_Tq.stp (pc' := 13) (lv' := [some (.inr (.inr (.inl (0, 0)))), some (.inl (b + (1 : Int32))), some (.inl c)]) (st' := []) (m' := (f, l)) rfl rfl (fl_bo rfl) rfl ?_
      exact k1 h1 h2
  · refine fl_Tq.zt rfl (fl_bo rfl) (c1_ne_t h1) rfl ?_
    refine fl_Tq.stp (pc' := 62) (lv' := [some (.inr (.inr (.inl (0, 0)))), some (.inl (b + (1 : Int32))), some (.inl c)]) (st' := []) (m' := (f, l)) rfl rfl (fl_bo rfl) rfl ?_
    refine fl_Tq.stp (pc' := 13) (lv' := [some (.inr (.inr (.inl (0, 0)))), some (.inl (b + (1 : Int32))), some (.inl c)]) (st' := []) (m' := (f, l)) rfl rfl (fl_bo rfl) rfl ?_
    exact k2 h1
theorem x_et_A {L : Nat} {xs : Nat → Int32} {f : t2_F} {l : t2_L} {Q : Option fl_V → fl_M → Prop} {a : Int32}  (k : ((t2_within_v a (0 : Int32) (1 : Int32)).toInt = 0) → Q (some (.inl (-1 : Int32))) (f, l)) (k1 : (¬ ((t2_within_v a (0 : Int32) (1 : Int32)).toInt = 0)) → fl_Tq (pw_P L xs) 167 19 [some (.inr (.inr (.inl (0, 0)))), some (.inl a), none] [.inr (.inr (.inl (1, 1))), .inr (.inr (.inl (49, 181)))] (f, l) Q) : fl_Tq (pw_P L xs) 167 0 [some (.inr (.inr (.inl (0, 0)))), some (.inl a), none] [] (f, l) Q := by
  refine fl_Tq.stp (pc' := 1) (lv' := [some (.inr (.inr (.inl (0, 0)))), some (.inl a), none]) (st' := [.inl a]) (m' := (f, l)) rfl rfl (fl_bo rfl) rfl ?_
  refine fl_Tq.cI (c := (0 : Int32)) rfl (by decide +kernel) (fl_bo rfl) ?_
  refine fl_Tq.cI (c := (1 : Int32)) rfl (by decide +kernel) (fl_bo rfl) ?_
  refine fl_Tq.cal rfl rfl (fl_bo rfl) rfl ?_
  refine t2_within_q  ?_
  show fl_Tq _ 167 6 [some (.inr (.inr (.inl (0, 0)))), some (.inl a), none] [.inl (t2_within_v a (0 : Int32) (1 : Int32))] (f, l) _
  by_cases h1 : (t2_within_v a (0 : Int32) (1 : Int32)).toInt = 0
  · refine fl_Tq.zf rfl (fl_bo rfl) (c1_ne_f h1) rfl ?_
    refine fl_Tq.cI (c := (-1 : Int32)) rfl (by decide +kernel) (fl_bo rfl) ?_
    exact fl_Tq.ret rfl rfl rfl (k h1)
  · refine fl_Tq.zt rfl (fl_bo rfl) (c1_ne_t h1) rfl ?_
    refine fl_Tq.stp (pc' := 12) (lv' := [some (.inr (.inr (.inl (0, 0)))), some (.inl a), none]) (st' := [.inr (.inr (.inl (0, 0)))]) (m' := (f, l)) rfl rfl (fl_bo rfl) rfl ?_
    refine fl_Tq.stp (pc' := 15) (lv' := [some (.inr (.inr (.inl (0, 0)))), some (.inl a), none]) (st' := [.inr (.inr (.inl (49, 181)))]) (m' := (f, l)) rfl rfl (fl_bo rfl) rfl ?_
    refine fl_Tq.stp (pc' := 16) (lv' := [some (.inr (.inr (.inl (0, 0)))), some (.inl a), none]) (st' := [.inr (.inr (.inl (0, 0))), .inr (.inr (.inl (49, 181)))]) (m' := (f, l)) rfl rfl (fl_bo rfl) rfl ?_
    refine fl_Tq.stp (pc' := 19) (lv' := [some (.inr (.inr (.inl (0, 0)))), some (.inl a), none]) (st' := [.inr (.inr (.inl (1, 1))), .inr (.inr (.inl (49, 181)))]) (m' := (f, l)) rfl rfl (fl_bo rfl) rfl ?_
    exact k1 h1
theorem x_et_B {L : Nat} {xs : Nat → Int32} {f : t2_F} {l : t2_L} {Q : Option fl_V → fl_M → Prop} {a : Int32}  (k : fl_Tq (pw_P L xs) 167 24 [some (.inr (.inr (.inl (0, 0)))), some (.inl a), some (.inl (0 : Int32))] [] (f, l) Q) : fl_Tq (pw_P L xs) 167 22 [some (.inr (.inr (.inl (0, 0)))), some (.inl a), none] [] (f, l) Q := by
  refine fl_Tq.cI (c := (0 : Int32)) rfl (by decide +kernel) (fl_bo rfl) ?_
  refine fl_Tq.stp (pc' := 24) (lv' := [some (.inr (.inr (.inl (0, 0)))), some (.inl a), some (.inl (0 : Int32))]) (st' := []) (m' := (f, l)) rfl rfl (fl_bo rfl) rfl ?_
  exact k
theorem x_et_C {L : Nat} {xs : Nat → Int32} {f : t2_F} {l : t2_L} {Q : Option fl_V → fl_M → Prop} {a : Int32} {j : Nat}  (k : ((2000 : Int32).toInt < (Int32.ofNat j).toInt) → Q (some (.inl (-1 : Int32))) (f, l)) (k1 : (¬ ((2000 : Int32).toInt < (Int32.ofNat j).toInt)) → fl_Tq (pw_P L xs) 167 36 [some (.inr (.inr (.inl (0, 0)))), some (.inl a), some (.inl (Int32.ofNat j))] [.inl a, .inr (.inr (.inl (49, 181)))] (f, l) Q) : fl_Tq (pw_P L xs) 167 24 [some (.inr (.inr (.inl (0, 0)))), some (.inl a), some (.inl (Int32.ofNat j))] [] (f, l) Q := by
  refine fl_Tq.stp (pc' := 25) (lv' := [some (.inr (.inr (.inl (0, 0)))), some (.inl a), some (.inl (Int32.ofNat j))]) (st' := [.inl (Int32.ofNat j)]) (m' := (f, l)) rfl rfl (fl_bo rfl) rfl ?_
  refine fl_Tq.cS (c := (2000 : Int32)) rfl (by decide +kernel) (fl_bo rfl) ?_
  by_cases h1 : (2000 : Int32).toInt < (Int32.ofNat j).toInt
  · refine fl_Tq.jt rfl (fl_bo rfl) (c2_gt_t h1) rfl ?_
    refine fl_Tq.cI (c := (-1 : Int32)) rfl (by decide +kernel) (fl_bo rfl) ?_
    exact fl_Tq.ret rfl rfl rfl (k h1)
  · refine fl_Tq.jf rfl (fl_bo rfl) (c2_gt_f h1) rfl ?_
    refine fl_Tq.stp (pc' := 32) (lv' := [some (.inr (.inr (.inl (0, 0)))), some (.inl a), some (.inl (Int32.ofNat j))]) (st' := [.inr (.inr (.inl (0, 0)))]) (m' := (f, l)) rfl rfl (fl_bo rfl) rfl ?_
    refine fl_Tq.stp (pc' := 35) (lv' := [some (.inr (.inr (.inl (0, 0)))), some (.inl a), some (.inl (Int32.ofNat j))]) (st' := [.inr (.inr (.inl (49, 181)))]) (m' := (f, l)) rfl rfl (fl_bo rfl) rfl ?_
    refine fl_Tq.stp (pc' := 36) (lv' := [some (.inr (.inr (.inl (0, 0)))), some (.inl a), some (.inl (Int32.ofNat j))]) (st' := [.inl a, .inr (.inr (.inl (49, 181)))]) (m' := (f, l)) rfl rfl (fl_bo rfl) rfl ?_
    exact k1 h1
theorem x_et_D {L : Nat} {xs : Nat → Int32} {f : t2_F} {l : t2_L} {Q : Option fl_V → fl_M → Prop} {a z : Int32} {j : Nat}  (k : (z.toInt = 0) → ((Int32.ofNat j).toInt < (2000 : Int32).toInt) → fl_Tq (pw_P L xs) 167 55 [some (.inr (.inr (.inl (0, 0)))), some (.inl a), some (.inl (Int32.ofNat j))] [.inr (.inr (.inl (49, 181)))] (f, l) Q) (k1 : (z.toInt = 0) → (¬ ((Int32.ofNat j).toInt < (2000 : Int32).toInt)) → fl_Tq (pw_P L xs) 167 24 [some (.inr (.inr (.inl (0, 0)))), some (.inl a), some (.inl ((Int32.ofNat j) + (1 : Int32)))] [] (f, l) Q) (k2 : (¬ (z.toInt = 0)) → Q (some (.inl (Int32.ofNat j))) (f, l)) : fl_Tq (pw_P L xs) 167 39 [some (.inr (.inr (.inl (0, 0)))), some (.inl a), some (.inl (Int32.ofNat j))] [.inl z] (f, l) Q := by
  by_cases h1 : z.toInt = 0
  · refine fl_Tq.zt rfl (fl_bo rfl) (c1_eq_t h1) rfl ?_
    refine fl_Tq.stp (pc' := 45) (lv' := [some (.inr (.inr (.inl (0, 0)))), some (.inl a), some (.inl (Int32.ofNat j))]) (st' := [.inl (Int32.ofNat j)]) (m' := (f, l)) rfl rfl (fl_bo rfl) rfl ?_
    refine fl_Tq.cS (c := (2000 : Int32)) rfl (by decide +kernel) (fl_bo rfl) ?_
    by_cases h2 : (Int32.ofNat j).toInt < (2000 : Int32).toInt
    · refine fl_Tq.jf rfl (fl_bo rfl) (c2_ge_f h2) rfl ?_
      refine fl_Tq.stp (pc' := 52) (lv' := [some (.inr (.inr (.inl (0, 0)))), some (.inl a), some (.inl (Int32.ofNat j))]) (st' := [.inr (.inr (.inl (0, 0)))]) (m' := (f, l)) rfl rfl (fl_bo rfl) rfl ?_
      refine fl_Tq.stp (pc' := 55) (lv' := [some (.inr (.inr (.inl (0, 0)))), some (.inl a), some (.inl (Int32.ofNat j))]) (st' := [.inr (.inr (.inl (49, 181)))]) (m' := (f, l)) rfl rfl (fl_bo rfl) rfl ?_
      exact k h1 h2
    · refine fl_Tq.jt rfl (fl_bo rfl) (c2_ge_t h2) rfl ?_
      refine fl_Tq.stp (pc' := 62) (lv' := [some (.inr (.inr (.inl (0, 0)))), some (.inl a), some (.inl ((Int32.ofNat j) + (1 : Int32)))]) (st' := []) (m' := (f, l)) rfl rfl (fl_bo rfl) rfl ?_
      refine fl_Tq.stp (pc' := 24) (lv' := [some (.inr (.inr (.inl (0, 0)))), some (.inl a), some (.inl ((Int32.ofNat j) + (1 : Int32)))]) (st' := []) (m' := (f, l)) rfl rfl (fl_bo rfl) rfl ?_
      exact k1 h1 h2
  · refine fl_Tq.zf rfl (fl_bo rfl) (c1_eq_f h1) rfl ?_
    refine fl_Tq.stp (pc' := 43) (lv' := [some (.inr (.inr (.inl (0, 0)))), some (.inl a), some (.inl (Int32.ofNat j))]) (st' := [.inl (Int32.ofNat j)]) (m' := (f, l)) rfl rfl (fl_bo rfl) rfl ?_
    exact fl_Tq.ret rfl rfl rfl (k2 h1)
theorem x_et_E {L : Nat} {xs : Nat → Int32} {f : t2_F} {l : t2_L} {Q : Option fl_V → fl_M → Prop} {a z : Int32} {j : Nat}  (k : fl_Tq (pw_P L xs) 167 24 [some (.inr (.inr (.inl (0, 0)))), some (.inl a), some (.inl ((Int32.ofNat j) + (1 : Int32)))] [] (f, l) Q) : fl_Tq (pw_P L xs) 167 58 [some (.inr (.inr (.inl (0, 0)))), some (.inl a), some (.inl (Int32.ofNat j))] [.inl z] (f, l) Q := by
  refine fl_Tq.stp (pc' := 59) (lv' := [some (.inr (.inr (.inl (0, 0)))), some (.inl a), some (.inl (Int32.ofNat j))]) (st' := []) (m' := (f, l)) rfl rfl (fl_bo rfl) rfl ?_
  refine fl_Tq.stp (pc' := 62) (lv' := [some (.inr (.inr (.inl (0, 0)))), some (.inl a), some (.inl ((Int32.ofNat j) + (1 : Int32)))]) (st' := []) (m' := (f, l)) rfl rfl (fl_bo rfl) rfl ?_
  refine fl_Tq.stp (pc' := 24) (lv' := [some (.inr (.inr (.inl (0, 0)))), some (.inl a), some (.inl ((Int32.ofNat j) + (1 : Int32)))]) (st' := []) (m' := (f, l)) rfl rfl (fl_bo rfl) rfl ?_
  exact k
theorem x_bb_A {L : Nat} {xs : Nat → Int32} {f : t2_F} {l : t2_L} {Q : Option fl_V → fl_M → Prop} {a b : Int32}  (k : ((t2_within_v a (1 : Int32) (60 : Int32)).toInt = 0) → Q (some (.inl (-1 : Int32))) (f, l)) (k1 : (¬ ((t2_within_v a (1 : Int32) (60 : Int32)).toInt = 0)) → ((t2_within_v b (0 : Int32) (1000 : Int32)).toInt = 0) → Q (some (.inl (-1 : Int32))) (f, l)) (k2 : (¬ ((t2_within_v a (1 : Int32) (60 : Int32)).toInt = 0)) → (¬ ((t2_within_v b (0 : Int32) (1000 : Int32)).toInt = 0)) → ((f 1 5).toInt = 0) → Q (some (.inl (-1 : Int32))) (f, l)) (k3 : (¬ ((t2_within_v a (1 : Int32) (60 : Int32)).toInt = 0)) → (¬ ((t2_within_v b (0 : Int32) (1000 : Int32)).toInt = 0)) → (¬ ((f 1 5).toInt = 0)) → fl_Tq (pw_P L xs) 165 36 [some (.inr (.inr (.inl (0, 0)))), some (.inl a), some (.inl b), some (.inl (99 : Int32))] [] (f, l) Q) : fl_Tq (pw_P L xs) 165 0 [some (.inr (.inr (.inl (0, 0)))), some (.inl a), some (.inl b), none] [] (f, l) Q := by
  refine fl_Tq.stp (pc' := 1) (lv' := [some (.inr (.inr (.inl (0, 0)))), some (.inl a), some (.inl b), none]) (st' := [.inl a]) (m' := (f, l)) rfl rfl (fl_bo rfl) rfl ?_
  refine fl_Tq.cI (c := (1 : Int32)) rfl (by decide +kernel) (fl_bo rfl) ?_
  refine fl_Tq.cB (c := (60 : Int32)) rfl (by decide +kernel) (fl_bo rfl) ?_
  refine fl_Tq.cal rfl rfl (fl_bo rfl) rfl ?_
  refine t2_within_q  ?_
  show fl_Tq _ 165 7 [some (.inr (.inr (.inl (0, 0)))), some (.inl a), some (.inl b), none] [.inl (t2_within_v a (1 : Int32) (60 : Int32))] (f, l) _
  by_cases h1 : (t2_within_v a (1 : Int32) (60 : Int32)).toInt = 0
  · refine fl_Tq.zt rfl (fl_bo rfl) (c1_eq_t h1) rfl ?_
    refine fl_Tq.cI (c := (-1 : Int32)) rfl (by decide +kernel) (fl_bo rfl) ?_
    exact fl_Tq.ret rfl rfl rfl (k h1)
  · refine fl_Tq.zf rfl (fl_bo rfl) (c1_eq_f h1) rfl ?_
    refine fl_Tq.stp (pc' := 11) (lv' := [some (.inr (.inr (.inl (0, 0)))), some (.inl a), some (.inl b), none]) (st' := [.inl b]) (m' := (f, l)) rfl rfl (fl_bo rfl) rfl ?_
    refine fl_Tq.cI (c := (0 : Int32)) rfl (by decide +kernel) (fl_bo rfl) ?_
    refine fl_Tq.cS (c := (1000 : Int32)) rfl (by decide +kernel) (fl_bo rfl) ?_
    refine fl_Tq.cal rfl rfl (fl_bo rfl) rfl ?_
    refine t2_within_q  ?_
    show fl_Tq _ 165 18 [some (.inr (.inr (.inl (0, 0)))), some (.inl a), some (.inl b), none] [.inl (t2_within_v b (0 : Int32) (1000 : Int32))] (f, l) _
    by_cases h2 : (t2_within_v b (0 : Int32) (1000 : Int32)).toInt = 0
    · refine fl_Tq.zt rfl (fl_bo rfl) (c1_eq_t h2) rfl ?_
      refine fl_Tq.cI (c := (-1 : Int32)) rfl (by decide +kernel) (fl_bo rfl) ?_
      exact fl_Tq.ret rfl rfl rfl (k1 h1 h2)
    · refine fl_Tq.zf rfl (fl_bo rfl) (c1_eq_f h2) rfl ?_
      refine fl_Tq.stp (pc' := 22) (lv' := [some (.inr (.inr (.inl (0, 0)))), some (.inl a), some (.inl b), none]) (st' := [.inr (.inr (.inl (0, 0)))]) (m' := (f, l)) rfl rfl (fl_bo rfl) rfl ?_
      refine fl_Tq.stp (pc' := 25) (lv' := [some (.inr (.inr (.inl (0, 0)))), some (.inl a), some (.inl b), none]) (st' := [.inr (.inr (.inl (1, 1)))]) (m' := (f, l)) rfl rfl (fl_bo rfl) rfl ?_
      refine fl_Tq.gfV (k := 5) (v := f 1 5) rfl (fl_bo rfl) rfl rfl ?_
      by_cases h3 : (f 1 5).toInt = 0
      · refine fl_Tq.zf rfl (fl_bo rfl) (c1_ne_f h3) rfl ?_
        refine fl_Tq.cI (c := (-1 : Int32)) rfl (by decide +kernel) (fl_bo rfl) ?_
        exact fl_Tq.ret rfl rfl rfl (k2 h1 h2 h3)
      · refine fl_Tq.zt rfl (fl_bo rfl) (c1_ne_t h3) rfl ?_
        refine fl_Tq.cB (c := (99 : Int32)) rfl (by decide +kernel) (fl_bo rfl) ?_
        refine fl_Tq.stp (pc' := 36) (lv' := [some (.inr (.inr (.inl (0, 0)))), some (.inl a), some (.inl b), some (.inl (99 : Int32))]) (st' := []) (m' := (f, l)) rfl rfl (fl_bo rfl) rfl ?_
        exact k3 h1 h2 h3
theorem x_bm_A {L : Nat} {xs : Nat → Int32} {f : t2_F} {l : t2_L} {Q : Option fl_V → fl_M → Prop} {a : Int32}  (k : ((t2_within_v a (1 : Int32) (300 : Int32)).toInt = 0) → Q (some (.inl (-1 : Int32))) (f, l)) (k1 : (¬ ((t2_within_v a (1 : Int32) (300 : Int32)).toInt = 0)) → ((f 1 5).toInt = 0) → Q (some (.inl (-1 : Int32))) (f, l)) (k2 : (¬ ((t2_within_v a (1 : Int32) (300 : Int32)).toInt = 0)) → (¬ ((f 1 5).toInt = 0)) → fl_Tq (pw_P L xs) 168 32 [some (.inr (.inr (.inl (0, 0)))), some (.inl a), some (.inl (-1 : Int32)), some (.inl (2147483647 : Int32)), some (.inl (0 : Int32)), none] [] (f, l) Q) : fl_Tq (pw_P L xs) 168 0 [some (.inr (.inr (.inl (0, 0)))), some (.inl a), none, none, none, none] [] (f, l) Q := by
  refine fl_Tq.stp (pc' := 1) (lv' := [some (.inr (.inr (.inl (0, 0)))), some (.inl a), none, none, none, none]) (st' := [.inl a]) (m' := (f, l)) rfl rfl (fl_bo rfl) rfl ?_
  refine fl_Tq.cI (c := (1 : Int32)) rfl (by decide +kernel) (fl_bo rfl) ?_
  refine fl_Tq.cS (c := (300 : Int32)) rfl (by decide +kernel) (fl_bo rfl) ?_
  refine fl_Tq.cal rfl rfl (fl_bo rfl) rfl ?_
  refine t2_within_q  ?_
  show fl_Tq _ 168 8 [some (.inr (.inr (.inl (0, 0)))), some (.inl a), none, none, none, none] [.inl (t2_within_v a (1 : Int32) (300 : Int32))] (f, l) _
  by_cases h1 : (t2_within_v a (1 : Int32) (300 : Int32)).toInt = 0
  · refine fl_Tq.zt rfl (fl_bo rfl) (c1_eq_t h1) rfl ?_
    refine fl_Tq.cI (c := (-1 : Int32)) rfl (by decide +kernel) (fl_bo rfl) ?_
    exact fl_Tq.ret rfl rfl rfl (k h1)
  · refine fl_Tq.zf rfl (fl_bo rfl) (c1_eq_f h1) rfl ?_
    refine fl_Tq.stp (pc' := 12) (lv' := [some (.inr (.inr (.inl (0, 0)))), some (.inl a), none, none, none, none]) (st' := [.inr (.inr (.inl (0, 0)))]) (m' := (f, l)) rfl rfl (fl_bo rfl) rfl ?_
    refine fl_Tq.stp (pc' := 15) (lv' := [some (.inr (.inr (.inl (0, 0)))), some (.inl a), none, none, none, none]) (st' := [.inr (.inr (.inl (1, 1)))]) (m' := (f, l)) rfl rfl (fl_bo rfl) rfl ?_
    refine fl_Tq.gfV (k := 5) (v := f 1 5) rfl (fl_bo rfl) rfl rfl ?_
    by_cases h2 : (f 1 5).toInt = 0
    · refine fl_Tq.zf rfl (fl_bo rfl) (c1_ne_f h2) rfl ?_
      refine fl_Tq.cI (c := (-1 : Int32)) rfl (by decide +kernel) (fl_bo rfl) ?_
      exact fl_Tq.ret rfl rfl rfl (k1 h1 h2)
    · refine fl_Tq.zt rfl (fl_bo rfl) (c1_ne_t h2) rfl ?_
      refine fl_Tq.cI (c := (-1 : Int32)) rfl (by decide +kernel) (fl_bo rfl) ?_
      refine fl_Tq.stp (pc' := 25) (lv' := [some (.inr (.inr (.inl (0, 0)))), some (.inl a), some (.inl (-1 : Int32)), none, none, none]) (st' := []) (m' := (f, l)) rfl rfl (fl_bo rfl) rfl ?_
      refine fl_Tq.stp (pc' := 28) (lv' := [some (.inr (.inr (.inl (0, 0)))), some (.inl a), some (.inl (-1 : Int32)), none, none, none]) (st' := [.inl (2147483647 : Int32)]) (m' := (f, l)) rfl rfl (fl_bo rfl) rfl ?_
      refine fl_Tq.stp (pc' := 29) (lv' := [some (.inr (.inr (.inl (0, 0)))), some (.inl a), some (.inl (-1 : Int32)), some (.inl (2147483647 : Int32)), none, none]) (st' := []) (m' := (f, l)) rfl rfl (fl_bo rfl) rfl ?_
      refine fl_Tq.cI (c := (0 : Int32)) rfl (by decide +kernel) (fl_bo rfl) ?_
      refine fl_Tq.stp (pc' := 32) (lv' := [some (.inr (.inr (.inl (0, 0)))), some (.inl a), some (.inl (-1 : Int32)), some (.inl (2147483647 : Int32)), some (.inl (0 : Int32)), none]) (st' := []) (m' := (f, l)) rfl rfl (fl_bo rfl) rfl ?_
      exact k2 h1 h2
def tz_c133 : at_C := (133, [.inl (0, some 0), .inr (false, -2147483648, 2147483647), .inr (false, -2147483648, 2147483647)], [], some (.inr (false, -2147483648, 2147483647)), false, [])
set_option maxRecDepth 100000 in
theorem tz_c133_in : tz_c133 ∈ at_CM ++ at_CA := List.mem_of_getElem? (i := 95) rfl
def tz_c280 : at_C := (280, [.inl (76, some 277), .inr (false, -2147483648, 2147483647), .inr (false, -2147483648, 2147483647)], [], some (.inr (false, -2147483648, 2147483647)), false, [])
set_option maxRecDepth 100000 in
theorem tz_c280_in : tz_c280 ∈ at_CM ++ at_CA := List.mem_of_getElem? (i := 243) rfl
def tz_c159 : at_C := (159, [.inl (0, some 0), .inr (false, -2147483648, 2147483647), .inr (false, -2147483648, 2147483647)], [], some (.inr (false, -2147483648, 2147483647)), false, [(49, false, 5, 16), (51, false, 6, 8), (52, false, 0, 29), (53, false, 0, 2), (54, false, 0, 23), (55, false, 0, 11), (56, false, 0, 47), (57, false, 0, 39), (58, false, 3, 6), (59, false, 0, 10), (60, false, 0, 3), (61, false, 2, 3), (62, false, -69, 140), (64, false, 2, 3), (65, false, -93, 188), (66, false, 0, 18), (67, false, 2, 2), (68, false, 0, 31), (69, false, 0, 10), (70, false, 2, 3), (71, false, 0, 15), (72, false, 0, 15)])
set_option maxRecDepth 100000 in
theorem tz_c159_in : tz_c159 ∈ at_CM ++ at_CA := List.mem_of_getElem? (i := 165) rfl
def tz_c310 : at_C := (310, [.inl (76, some 277), .inr (false, -2147483648, 2147483647), .inr (false, -2147483648, 2147483647)], [], some (.inr (false, -2147483648, 2147483647)), false, [(76, false, 4, 4), (76, false, 6, 6), (79, false, 2, 1419), (79, true, 1, 1), (79, true, 3, 4), (79, true, 7, 8), (79, true, 10, 60), (81, false, 0, 15), (82, false, 0, 1417)])
set_option maxRecDepth 100000 in
theorem tz_c310_in : tz_c310 ∈ at_CM ++ at_CA := List.mem_of_getElem? (i := 265) rfl
def tz_c160 : at_C := (160, [.inl (0, some 0), .inr (false, -2147483648, 2147483647), .inr (false, -2147483648, 2147483647), .inr (false, -2147483648, 2147483647)], [], some (.inr (false, -2147483648, 2147483647)), false, [(49, false, 5, 16), (51, false, 6, 8), (52, false, 0, 29), (53, false, 0, 2), (54, false, 0, 23), (55, false, 0, 11), (56, false, 0, 47), (57, false, 0, 39), (58, false, 3, 6), (59, false, 0, 10), (60, false, 0, 3), (61, false, 2, 3), (62, false, -69, 140), (64, false, 2, 3), (65, false, -93, 188), (66, false, 0, 18), (67, false, 2, 2), (68, false, 0, 31), (69, false, 0, 10), (70, false, 2, 3), (71, false, 0, 15), (72, false, 0, 15)])
set_option maxRecDepth 100000 in
theorem tz_c160_in : tz_c160 ∈ at_CM ++ at_CA := List.mem_of_getElem? (i := 166) rfl
def tz_c311 : at_C := (311, [.inl (76, some 277), .inr (false, -2147483648, 2147483647), .inr (false, -2147483648, 2147483647), .inr (false, -2147483648, 2147483647)], [], some (.inr (false, -2147483648, 2147483647)), false, [(76, false, 4, 4), (76, false, 6, 6), (79, false, 2, 1419), (79, true, 1, 1), (79, true, 3, 4), (79, true, 7, 8), (79, true, 10, 60), (81, false, 0, 15), (82, false, 0, 1417)])
set_option maxRecDepth 100000 in
theorem tz_c311_in : tz_c311 ∈ at_CM ++ at_CA := List.mem_of_getElem? (i := 266) rfl
def tz_c162 : at_C := (162, [.inl (0, some 0)], [], some (.inr (false, -1, 2000)), false, [(49, false, 5, 16), (51, false, 6, 8), (52, false, 0, 29), (53, false, 0, 2), (54, false, 0, 23), (55, false, 0, 11), (56, false, 0, 47), (57, false, 0, 39), (58, false, 3, 6), (59, false, 0, 10), (60, false, 0, 3), (61, false, 2, 3), (62, false, -69, 140), (64, false, 2, 3), (65, false, -93, 188), (66, false, 0, 18), (67, false, 2, 2), (68, false, 0, 31), (69, false, 0, 10), (70, false, 2, 3), (71, false, 0, 15), (72, false, 0, 15)])
set_option maxRecDepth 100000 in
theorem tz_c162_in : tz_c162 ∈ at_CM ++ at_CA := List.mem_of_getElem? (i := 169) rfl
def tz_c313 : at_C := (313, [.inl (76, some 277)], [], some (.inr (false, -1, 2000)), false, [(76, false, 4, 4), (76, false, 6, 6), (79, false, 2, 1419), (79, true, 1, 1), (79, true, 3, 4), (79, true, 7, 8), (79, true, 10, 60), (81, false, 0, 15), (82, false, 0, 1417)])
set_option maxRecDepth 100000 in
theorem tz_c313_in : tz_c313 ∈ at_CM ++ at_CA := List.mem_of_getElem? (i := 268) rfl
def tz_c165 : at_C := (165, [.inl (0, some 0), .inr (false, -2147483648, 2147483647), .inr (false, -2147483648, 2147483647)], [], some (.inr (false, -1, 99)), false, [(49, false, 5, 16), (51, false, 6, 8), (52, false, 0, 29), (53, false, 0, 2), (54, false, 0, 23), (55, false, 0, 11), (56, false, 0, 47), (57, false, 0, 39), (58, false, 3, 6), (59, false, 0, 10), (60, false, 0, 3), (61, false, 2, 3), (62, false, -69, 140), (64, false, 2, 3), (65, false, -93, 188), (66, false, 0, 18), (67, false, 2, 2), (68, false, 0, 31), (69, false, 0, 10), (70, false, 2, 3), (71, false, 0, 15), (72, false, 0, 15)])
set_option maxRecDepth 100000 in
theorem tz_c165_in : tz_c165 ∈ at_CM ++ at_CA := List.mem_of_getElem? (i := 174) rfl
def tz_c319 : at_C := (319, [.inl (76, some 277), .inr (false, -2147483648, 2147483647), .inr (false, -2147483648, 2147483647)], [], some (.inr (false, -1, 99)), false, [(76, false, 4, 4), (76, false, 6, 6), (79, false, 2, 1419), (79, true, 1, 1), (79, true, 3, 4), (79, true, 7, 8), (79, true, 10, 60), (81, false, 0, 15), (82, false, 0, 1417)])
set_option maxRecDepth 100000 in
theorem tz_c319_in : tz_c319 ∈ at_CM ++ at_CA := List.mem_of_getElem? (i := 273) rfl
def tz_c167 : at_C := (167, [.inl (0, some 0), .inr (false, -2147483648, 2147483647)], [], some (.inr (false, -1, 2000)), false, [(49, false, 5, 16), (51, false, 6, 8), (52, false, 0, 29), (53, false, 0, 2), (54, false, 0, 23), (55, false, 0, 11), (56, false, 0, 47), (57, false, 0, 39), (58, false, 3, 6), (59, false, 0, 10), (60, false, 0, 3), (61, false, 2, 3), (62, false, -69, 140), (64, false, 2, 3), (65, false, -93, 188), (66, false, 0, 18), (67, false, 2, 2), (68, false, 0, 31), (69, false, 0, 10), (70, false, 2, 3), (71, false, 0, 15), (72, false, 0, 15)])
set_option maxRecDepth 100000 in
theorem tz_c167_in : tz_c167 ∈ at_CM ++ at_CA := List.mem_of_getElem? (i := 177) rfl
def tz_c321 : at_C := (321, [.inl (76, some 277), .inr (false, -2147483648, 2147483647)], [], some (.inr (false, -1, 2000)), false, [(76, false, 4, 4), (76, false, 6, 6), (79, false, 2, 1419), (79, true, 1, 1), (79, true, 3, 4), (79, true, 7, 8), (79, true, 10, 60), (81, false, 0, 15), (82, false, 0, 1417)])
set_option maxRecDepth 100000 in
theorem tz_c321_in : tz_c321 ∈ at_CM ++ at_CA := List.mem_of_getElem? (i := 275) rfl
def tz_c168 : at_C := (168, [.inl (0, some 0), .inr (false, -2147483648, 2147483647)], [], some (.inr (false, -1, 2)), false, [(49, false, 5, 16), (51, false, 6, 8), (52, false, 0, 29), (53, false, 0, 2), (54, false, 0, 23), (55, false, 0, 11), (56, false, 0, 47), (57, false, 0, 39), (58, false, 3, 6), (59, false, 0, 10), (60, false, 0, 3), (61, false, 2, 3), (62, false, -69, 140), (64, false, 2, 3), (65, false, -93, 188), (66, false, 0, 18), (67, false, 2, 2), (68, false, 0, 31), (69, false, 0, 10), (70, false, 2, 3), (71, false, 0, 15), (72, false, 0, 15)])
set_option maxRecDepth 100000 in
theorem tz_c168_in : tz_c168 ∈ at_CM ++ at_CA := List.mem_of_getElem? (i := 178) rfl
def tz_c322 : at_C := (322, [.inl (76, some 277), .inr (false, -2147483648, 2147483647)], [], some (.inr (false, -1, 2)), false, [(76, false, 4, 4), (76, false, 6, 6), (79, false, 2, 1419), (79, true, 1, 1), (79, true, 3, 4), (79, true, 7, 8), (79, true, 10, 60), (81, false, 0, 15), (82, false, 0, 1417)])
set_option maxRecDepth 100000 in
theorem tz_c322_in : tz_c322 ∈ at_CM ++ at_CA := List.mem_of_getElem? (i := 276) rfl
/-! ===== a fresh object: what is so of it ===== -/
section P1
variable {L : Nat} {xs : Nat → Int32} {f g fc fr : t2_F} {l : t2_L} {a b c : Int32}
theorem t1_f0 (h : ((f, l) : fl_M) = at_m0) : f 280 2 = 0 ∧ f 280 7 = 0 ∧ f 280 45 = 0 ∧ f 280 21 = 0 := by
  have e : f 280 = t2_i0 280 := by
    have : f = at_m0.1 := congrArg Prod.fst h
    rw [this, t2_m0_w (by decide) (by decide)]
  rw [e]
  decide +kernel
/-- what a second leaves of some words -/
theorem t1_w {w : Nat} (h : c2_I fc fr) (ht : (fr 280 7).toInt < 9999) (hw : w = 2 ∨ w = 11 ∨ w = 13) : r_sec_m fr 280 w = r_goBalance_m (r_goCells_m (r_goCurrent_m (r_goBus_m (r_t1 fr)))) 280 w := by
  obtain ⟨i1, i2, i3, i4, i5, i6, im, -, ⟨i8, -⟩, ik, -⟩ := h.chain ht
  have ok8 := i8.2.2.2.2
  have okk := ik.2.2.2.2
  unfold r_sec_m
  rw [r_goRules_w okk.2.2.2.2.1.1 okk.2.2.2.2.1.2.1 (by omega)]
  have e1 : r_goKept_m (r_goFaults_m (r_v6 fr)) 280 w = r_goFaults_m (r_v6 fr) 280 w := by
    unfold r_goKept_m
    exact r_goKept_f117_w ok8.2.1.2.2.1 (fun C hC => (ok8.2.2.2.2.2.2.2 C hC).1) ok8.2.2.2.2.2.2.1.2.2 (fun C hC => ⟨(ok8.2.2.2.2.2.2.2 C hC).2.2.2.2.2.2.2.1, (ok8.2.2.2.2.2.2.2 C hC).2.2.2.2.2.2.2.2.1⟩) (Nat.le_refl _) (Or.inl (by omega)) (by omega)
  rw [e1, r_goFaults_w im.2.2.2.2.2.2.2.2.2.2.1.2.1 (by omega), r_v6_w, r_goTaper_w (by omega)]
  unfold r_w6
  rw [r_meas_mid (by omega), r_mid_lo (by omega) (by omega) (by omega)]
  unfold r_t5
  rw [fl_row_self, upd_ne (by omega)]
theorem t1_lo {w : Nat} (h : c2_I fc fr) (ht : (fr 280 7).toInt < 9999) (hw : w < 444 ∧ w ≠ 3 ∧ w ≠ 4 ∧ w ≠ 5 ∧ w ≠ 7) : r_goCells_m (r_goCurrent_m (r_goBus_m (r_t1 fr))) 280 w = fr 280 w := by
  obtain ⟨i1, i2, -⟩ := h.chain ht
  rw [r_cells_lo (by omega), i2.cur.2 w (by omega) (fun C _ => by omega), r_goBus_w2, if_neg (by omega), if_neg (by omega)]
  unfold r_t1
  rw [fl_row_self, upd_ne (by omega)]
theorem t1_w2 (h : c2_I fc fr) (ht : (fr 280 7).toInt < 9999) : r_sec_m fr 280 2 = fr 280 2 := by
  rw [t1_w h ht (by omega), r_goBalance_w (by decide), t1_lo h ht (by decide)]
theorem t1_bare (h : c2_I fc fr) (ht : (fr 280 7).toInt < 9999) (m0 : fr 280 45 = 0) : r_sec_m fr 280 13 = 0 ∧ r_sec_m fr 280 11 = fr 280 11 ∧ r_sec_m fr 277 6 = 0 := by
  have e45 : r_goCells_m (r_goCurrent_m (r_goBus_m (r_t1 fr))) 280 45 = 0 := by rw [t1_lo h ht (by decide), m0]
  have eb : r_goBalance_m (r_goCells_m (r_goCurrent_m (r_goBus_m (r_t1 fr)))) = fl_row (fl_row (r_goCells_m (r_goCurrent_m (r_goBus_m (r_t1 fr)))) 280 (upd (r_goCells_m (r_goCurrent_m (r_goBus_m (r_t1 fr))) 280) 13 (0 : Int32))) 277 (upd (r_goCells_m (r_goCurrent_m (r_goBus_m (r_t1 fr))) 277) 6 (0 : Int32)) := by
    unfold r_goBalance_m
    rw [e45]
    split
    · rw [if_neg (by decide), if_neg (by decide)]
    · rfl
  refine ⟨?_, ?_, ?_⟩
  · rw [t1_w h ht (by omega), eb, fl_row_ne (by decide), fl_row_self, upd_self]
  · rw [t1_w h ht (by omega), eb, fl_row_ne (by decide), fl_row_self, upd_ne (by decide), t1_lo h ht (by decide)]
  · unfold r_sec_m
    rw [r_goRules_fr (by decide), r_kept_p (by decide), r_goFaults_fr (by decide), r_v6_w, r_goTaper_fr (by decide)]
    unfold r_w6
    rw [r_goMeasure_fr (by decide)]
    unfold r_t5
    rw [fl_row_ne (by decide), eb, fl_row_self, upd_self]
theorem t1_n (K : c2_K fc fr) : ∀ k : Nat, (fr 280 7).toInt + k ≤ 9999 → r_runN fr k 280 2 = fr 280 2 := by
  intro k
  induction k with
  | zero => intro _; rfl
  | succ k ih =>
    intro hk
    obtain ⟨a, t, -⟩ := K.run (0 : Int32) (k := k) (by omega)
    show r_sec_m (r_runN fr k) 280 2 = _
    rw [t1_w2 a.1 (by omega), ih (by omega)]
/-! trace -/
theorem t2_cmp_32 (_hall : ∀ c ∈ at_CM ++ at_CA, at_Valid at_XI (pw_P L xs) c) (hg : t2_Z (f, l)) (h0 : ((f, l) : fl_M) = at_m0) : fl_Tq (pw_P L xs) 133 0 (fl_args (am_mxl (pw_P L xs) 133) [lx_x, .inl a, .inl b]) [] (f, l) (t2_End L xs 280 [at_this, .inl a, .inl b]) := by
  have I : c0_I f f := hg.2.1
  have c0 : (0 : Int32).toInt = 0 := rfl
  have cm : (-1 : Int32).toInt = -1 := by decide +kernel
  have c01 : ((0 : Int32) - (1 : Int32)).toInt = -1 := by decide +kernel
  obtain ⟨-, -, -, z21⟩ := t1_f0 h0
  have e3 : f 16 3 = f 280 21 := I.2.2.1.2.2.1.2.2.1
  by_cases hN : a.toInt = -1
  · refine t2_qq (y := f 280 21) hg (fun Q k => ?_) (fun Q k => ?_)
    · show fl_Tq (pw_P L xs) 133 0 [some (.inr (.inr (.inl (0, 0)))), some (.inl a), some (.inl b)] [] (f, l) Q
      exact x_tr_A (fun _ => by rw [e3]; exact k) (fun h => absurd (hN.trans cm.symm) h)
    · show fl_Tq (pw_P L xs) 280 0 [some (.inr (.inr (.inl (76, 277)))), some (.inl a), some (.inl b)] [] (f, l) Q
      refine y_tr_A (fun _ => k) (fun h => ?_) (fun h => ?_) (fun h => ?_) <;> exact absurd (hN.trans cm.symm) h
  · refine t2_qq (y := (-1000000000 : Int32)) hg (fun Q k => ?_) (fun Q k => ?_)
    · show fl_Tq (pw_P L xs) 133 0 [some (.inr (.inr (.inl (0, 0)))), some (.inl a), some (.inl b)] [] (f, l) Q
      refine x_tr_A (fun h1 => absurd (h1.trans cm) hN) (fun _ => ?_)
      refine fl_Tq.cal rfl rfl (fl_bo rfl) rfl ?_
      show fl_Tq (pw_P L xs) 28 0 [some (.inr (.inr (.inl (16, 16)))), some (.inl a), some (.inl b), some (.inl (3 : Int32)), some (.inl (-1000000000 : Int32))] [] (f, l) _
      refine x_tl_A (fun _ => x_tr_B k) (fun _ _ => x_tr_B k) (fun h1 _ => ?_)
      rw [t2_w0, e3, z21, c0, c01, Classical.not_not] at h1
      omega
    · show fl_Tq (pw_P L xs) 280 0 [some (.inr (.inr (.inl (76, 277)))), some (.inl a), some (.inl b)] [] (f, l) Q
      refine y_tr_A (fun h1 => absurd (h1.trans cm) hN) (fun _ _ => k) (fun _ _ _ => k) (fun _ h1 _ => ?_)
      rw [r_i0, z21, c0, c01, Classical.not_not] at h1
      omega
/-! foretold -/
theorem t2_cmp_57 (hall : ∀ c ∈ at_CM ++ at_CA, at_Valid at_XI (pw_P L xs) c) (hg : t2_Z (f, l)) (h0 : ((f, l) : fl_M) = at_m0) : fl_Tq (pw_P L xs) 159 0 (fl_args (am_mxl (pw_P L xs) 159) [lx_x, .inl a, .inl b]) [] (f, l) (t2_End L xs 310 [at_this, .inl a, .inl b]) := by
  have c0 : (0 : Int32).toInt = 0 := rfl
  have c1 : (1 : Int32).toInt = 1 := by decide +kernel
  have c3 : (300 : Int32).toInt = 300 := by decide +kernel
  obtain ⟨-, z7, -, -⟩ := t1_f0 h0
  have z7' : (f 280 7).toInt = 0 := by rw [z7]; rfl
  refine t2_trial (hall _ tz_c159_in) rfl hg ⟨lx_kx _, lx_ki _, lx_ki _, True.intro⟩ rfl (fun m Z => t2_acallR (hall _ tz_c310_in) rfl Z ⟨at_k277 _, lx_ki _, lx_ki _, True.intro⟩ rfl rfl rfl rfl (t2_z310 hall Z.1)) ?_
  show fl_Tq (pw_P L xs) 159 0 [some (.inr (.inr (.inl (0, 0)))), some (.inl a), some (.inl b)] [] (f, l) _
  refine x_fo_A (fun h1 => ?_) (fun h1 => ?_)
  · refine ⟨f, _, rfl, rfl, fun p _ => rfl, ?_⟩
    rw [t2_w0, c1, c3] at h1
    show fl_Tq (pw_P L xs) 310 0 [some (.inr (.inr (.inl (76, 277)))), some (.inl a), some (.inl b), none, none] [] (f, l) _
    refine z310_A ?_
    refine fl_Tq.cal rfl rfl (fl_bo rfl) rfl ?_
    refine r_canRun_q ?_
    refine z310_B (fun _ => rfl) (fun h => absurd ((t2_can (by omega) (by omega)).mpr (by rw [c3]; exact fun q => h1 q.1)) h)
  rw [t2_w0, Classical.not_not, c1, c3] at h1
  have tn : (f 280 7).toInt + (a.toInt.toNat : Nat) ≤ 9999 := by omega
  refine fl_Tq.cal rfl rfl (fl_bo rfl) rfl ?_
  refine t2_begun hg (fun M mf K => ?_)
  refine x_fo_B ?_
  refine fl_Tq.cal rfl rfl (fl_bo rfl) rfl ?_
  obtain ⟨K1, K2, K3, K4⟩ := id K
  refine c2_passSeconds_q K1 K2 K3 K4 (by omega) (by omega) ?_
  obtain ⟨KN, -, -⟩ := K.run (0 : Int32) tn
  refine x_fo_C ?_
  refine fl_Tq.cal rfl rfl (fl_bo rfl) rfl ?_
  refine c2_tell_q KN.1.hc ?_
  refine x_fo_D ?_
  have PN : ∀ p : Nat, p < 181 ∨ 271 ≤ p → c2_runN M a.toInt.toNat p = f p := fun p hp => by rw [K.runP hp _ tn, mf p hp]
  refine ⟨_, _, rfl, rfl, PN, ?_⟩
  have e : c2_runN M a.toInt.toNat 280 = f 280 := PN 280 (by decide)
  have e7 : c2_runN M a.toInt.toNat 277 = f 277 := PN 277 (by decide)
  have e9 : c2_runN M a.toInt.toNat 279 = f 279 := PN 279 (by decide)
  show fl_Tq (pw_P L xs) 310 0 [some (.inr (.inr (.inl (76, 277)))), some (.inl a), some (.inl b), none, none] [] (_, l) _
  refine z310_A ?_
  refine fl_Tq.cal rfl rfl (fl_bo rfl) rfl ?_
  refine r_canRun_q ?_
  refine z310_B (fun h => ?_) (fun _ => ?_)
  · rw [t2_can (by rw [e]; omega) (by omega), e, c3] at h
    exact absurd ⟨h1, by omega⟩ h
  refine fl_Tq.cal rfl rfl (fl_bo rfl) rfl ?_
  refine r_putAside_q (m := (c2_runN M a.toInt.toNat, l)) (fun g gp _ => ?_)
  have gp : ∀ p : Nat, p ≠ 283 → g p = c2_runN M a.toInt.toNat p := gp
  have g280 : g 280 = f 280 := by rw [gp 280 (by decide), e]
  have Kg : c2_K M g := ⟨K.1.ext (fun p _ _ => rfl) (fun w _ _ => by rw [g280]), K.2.1, K.2.2.1.same (by rw [gp 279 (by decide), e9]), by rw [gp 277 (by decide), e7]; exact K.2.2.2⟩
  refine z310_C ?_
  refine fl_Tq.cal rfl rfl (fl_bo rfl) rfl ?_
  refine c2_secondsNow_q Kg.1 Kg.2.1 Kg.2.2.1 Kg.2.2.2 (by omega) (by rw [g280]; omega) ?_
  obtain ⟨KR, -, -⟩ := Kg.run (0 : Int32) (k := a.toInt.toNat) (by rw [g280]; exact tn)
  refine z310_D ?_
  refine fl_Tq.cal rfl rfl (fl_bo rfl) rfl ?_
  refine r_is_q KR.1.rhu.1 KR.2.2.1 KR.1.rhu.2 ?_
  refine z310_E ?_
  refine fl_Tq.cal rfl rfl (fl_bo rfl) rfl ?_
  refine r_bringBack_q (m := (r_runN g a.toInt.toNat, l)) (fun g2 _ _ _ => ?_)
  refine z310_F ?_
  show some (Sum.inl (r_is_v _ b)) = some (Sum.inl (c2_tell_v _ b))
  rw [KR.1.tell]
/-! foretoldOf -/
theorem t2_cmp_58 (hall : ∀ c ∈ at_CM ++ at_CA, at_Valid at_XI (pw_P L xs) c) (hg : t2_Z (f, l)) (h0 : ((f, l) : fl_M) = at_m0) : fl_Tq (pw_P L xs) 160 0 (fl_args (am_mxl (pw_P L xs) 160) [lx_x, .inl a, .inl b, .inl c]) [] (f, l) (t2_End L xs 311 [at_this, .inl a, .inl b, .inl c]) := by
  have c0 : (0 : Int32).toInt = 0 := rfl
  have c1 : (1 : Int32).toInt = 1 := by decide +kernel
  have c3 : (300 : Int32).toInt = 300 := by decide +kernel
  have c01 : ((0 : Int32) - (1 : Int32)).toInt = -1 := by decide +kernel
  obtain ⟨z2, z7, -, -⟩ := t1_f0 h0
  have z7' : (f 280 7).toInt = 0 := by rw [z7]; rfl
  refine t2_trial (hall _ tz_c160_in) rfl hg ⟨lx_kx _, lx_ki _, lx_ki _, lx_ki _, True.intro⟩ rfl (fun m Z => t2_acallR (hall _ tz_c311_in) rfl Z ⟨at_k277 _, lx_ki _, lx_ki _, lx_ki _, True.intro⟩ rfl rfl rfl rfl (t2_z311 hall Z.1)) ?_
  show fl_Tq (pw_P L xs) 160 0 [some (.inr (.inr (.inl (0, 0)))), some (.inl a), some (.inl b), some (.inl c)] [] (f, l) _
  refine x_fc_A (fun h1 => ?_) (fun h1 => ?_)
  · refine ⟨f, _, rfl, rfl, fun p _ => rfl, ?_⟩
    rw [t2_w0, c1, c3] at h1
    show fl_Tq (pw_P L xs) 311 0 [some (.inr (.inr (.inl (76, 277)))), some (.inl a), some (.inl b), some (.inl c), none, none] [] (f, l) _
    refine z311_A ?_
    refine fl_Tq.cal rfl rfl (fl_bo rfl) rfl ?_
    refine r_canRun_q ?_
    refine z311_B (fun _ => rfl) (fun h => absurd ((t2_can (by omega) (by omega)).mpr (by rw [c3]; exact fun q => h1 q.1)) h)
  rw [t2_w0, Classical.not_not, c1, c3] at h1
  have tn : (f 280 7).toInt + (a.toInt.toNat : Nat) ≤ 9999 := by omega
  refine fl_Tq.cal rfl rfl (fl_bo rfl) rfl ?_
  refine t2_begun hg (fun M mf K => ?_)
  refine x_fc_B ?_
  refine fl_Tq.cal rfl rfl (fl_bo rfl) rfl ?_
  obtain ⟨K1, K2, K3, K4⟩ := id K
  refine c2_passSeconds_q K1 K2 K3 K4 (by omega) (by omega) ?_
  obtain ⟨KN, -, -⟩ := K.run (0 : Int32) tn
  refine x_fc_C ?_
  refine fl_Tq.cal rfl rfl (fl_bo rfl) rfl ?_
  have n5 : c2_runN M a.toInt.toNat 181 5 = 0 := by rw [KN.1.1.1.1, t1_n K _ tn, z2]
  have PN : ∀ p : Nat, p < 181 ∨ 271 ≤ p → c2_runN M a.toInt.toNat p = f p := fun p hp => by rw [K.runP hp _ tn, mf p hp]
  show fl_Tq (pw_P L xs) 73 0 [some (.inr (.inr (.inl (49, 181)))), some (.inl b), some (.inl c)] [] (c2_runN M a.toInt.toNat, l) _
  refine x_to2_A (fun _ => ?_) (fun h => ?_)
  case refine_2 =>
    rw [t2_w0, n5, c0, c01, Classical.not_not] at h
    omega
  refine x_fc_D ?_
  refine ⟨_, _, rfl, rfl, PN, ?_⟩
  have e : c2_runN M a.toInt.toNat 280 = f 280 := PN 280 (by decide)
  have e7 : c2_runN M a.toInt.toNat 277 = f 277 := PN 277 (by decide)
  have e9 : c2_runN M a.toInt.toNat 279 = f 279 := PN 279 (by decide)
  show fl_Tq (pw_P L xs) 311 0 [some (.inr (.inr (.inl (76, 277)))), some (.inl a), some (.inl b), some (.inl c), none, none] [] (_, l) _
  refine z311_A ?_
  refine fl_Tq.cal rfl rfl (fl_bo rfl) rfl ?_
  refine r_canRun_q ?_
  refine z311_B (fun _ => rfl) (fun _ => ?_)
  refine fl_Tq.cal rfl rfl (fl_bo rfl) rfl ?_
  refine r_putAside_q (m := (c2_runN M a.toInt.toNat, l)) (fun g gp _ => ?_)
  have gp : ∀ p : Nat, p ≠ 283 → g p = c2_runN M a.toInt.toNat p := gp
  have g280 : g 280 = f 280 := by rw [gp 280 (by decide), e]
  have Kg : c2_K M g := ⟨K.1.ext (fun p _ _ => rfl) (fun w _ _ => by rw [g280]), K.2.1, K.2.2.1.same (by rw [gp 279 (by decide), e9]), by rw [gp 277 (by decide), e7]; exact K.2.2.2⟩
  refine z311_C ?_
  refine fl_Tq.cal rfl rfl (fl_bo rfl) rfl ?_
  refine c2_secondsNow_q Kg.1 Kg.2.1 Kg.2.2.1 Kg.2.2.2 (by omega) (by rw [g280]; omega) ?_
  have m2 : r_runN g a.toInt.toNat 280 2 = 0 := by rw [t1_n Kg _ (by rw [g280]; exact tn), g280, z2]
  refine z311_D ?_
  refine fl_Tq.cal rfl rfl (fl_bo rfl) rfl ?_
  show fl_Tq (pw_P L xs) 271 0 [some (.inr (.inr (.inl (76, 277)))), some (.inl b), some (.inl c)] [] (r_runN g a.toInt.toNat, l) _
  refine y_o1_A (fun _ => ?_) (fun h => ?_)
  case refine_2 =>
    refine absurd ((r_isc (by rw [m2, c0]; omega)).mpr ?_) h
    rw [m2, c0]
    omega
  refine z311_E ?_
  refine fl_Tq.cal rfl rfl (fl_bo rfl) rfl ?_
  refine r_bringBack_q (m := (r_runN g a.toInt.toNat, l)) (fun g2 _ _ _ => ?_)
  refine z311_F rfl
/-! bare -/
theorem t2_cmp_60 (hall : ∀ c ∈ at_CM ++ at_CA, at_Valid at_XI (pw_P L xs) c) (hg : t2_Z (f, l)) (h0 : ((f, l) : fl_M) = at_m0) : fl_Tq (pw_P L xs) 162 0 (fl_args (am_mxl (pw_P L xs) 162) [lx_x]) [] (f, l) (t2_End L xs 313 [at_this]) := by
  have c0 : (0 : Int32).toInt = 0 := rfl
  have c1 : (1 : Int32).toInt = 1 := by decide +kernel
  have c9 : (9999 : Int32).toInt = 9999 := by decide +kernel
  have c20 : (2000 : Int32).toInt = 2000 := by decide +kernel
  obtain ⟨z2, z7, z45, -⟩ := t1_f0 h0
  have z7' : (f 280 7).toInt = 0 := by rw [z7]; rfl
  refine t2_trial (hall _ tz_c162_in) rfl hg ⟨lx_kx _, True.intro⟩ rfl (fun m Z => t2_acallR (hall _ tz_c313_in) rfl Z ⟨at_k277 _, True.intro⟩ rfl rfl rfl rfl (t2_z313 hall Z.1)) ?_
  show fl_Tq (pw_P L xs) 162 0 [some (.inr (.inr (.inl (0, 0)))), none, none] [] (f, l) _
  refine x_ba_A ?_
  refine fl_Tq.cal rfl rfl (fl_bo rfl) rfl ?_
  refine t2_begun hg (fun M mf K => ?_)
  refine x_ba_B ?_
  refine fl_Tq.cal rfl rfl (fl_bo rfl) rfl ?_
  refine c2_sec_q K.1 (by omega) K.2.1 ?_
  obtain ⟨i', -⟩ := K.1.sec (by omega)
  obtain ⟨b1, b2, b3⟩ := t1_bare K.1 (by omega) z45
  have s16 : c2_sec_m M 181 16 = 0 := by rw [i'.1.2.2.2.2.2, b1]
  have s14 : c2_sec_m M 181 14 = M 181 14 := by rw [i'.1.2.2.2.1, b2, K.1.1.2.2.2.1]
  have P1 : ∀ p : Nat, p < 181 ∨ 271 ≤ p → c2_sec_m M p = f p := fun p hp => by rw [K.1.secP (by omega) hp, mf p hp]
  refine x_ba_C (fun _ _ => ⟨_, _, rfl, rfl, P1, ?_⟩) (fun _ h => absurd (by rw [s14]) h) (fun h => absurd (by rw [s16]; exact c0) h)
  show fl_Tq (pw_P L xs) 313 0 [some (.inr (.inr (.inl (76, 277)))), none, none, none] [] (_, l) _
  refine z313_A ?_
  refine fl_Tq.cal rfl rfl (fl_bo rfl) rfl ?_
  refine r_putAside_q (m := (c2_sec_m M, l)) (fun g gp _ => ?_)
  have gp : ∀ p : Nat, p ≠ 283 → g p = c2_sec_m M p := gp
  have g280 : g 280 = f 280 := by rw [gp 280 (by decide), P1 280 (by decide)]
  have Kg : c2_K M g := ⟨K.1.ext (fun p _ _ => rfl) (fun w _ _ => by rw [g280]), K.2.1, K.2.2.1.same (by rw [gp 279 (by decide), P1 279 (by decide)]), by rw [gp 277 (by decide), P1 277 (by decide)]; exact K.2.2.2⟩
  refine z313_B ?_
  show fl_Tq (pw_P L xs) 313 10 [some (.inr (.inr (.inl (76, 277)))), some (.inl (Int32.ofNat 0)), some (.inl (0 : Int32)), some (.inl (0 : Int32))] [] (g, l) _
  have e0 : (Int32.ofNat 0).toInt = 0 := rfl
  refine z313_C (fun _ _ _ => ?_) (fun _ _ h => absurd (by rw [g280, z7', c9]; omega) h) (fun _ h => absurd (by rw [e0, c20]; omega) h) (fun h => absurd c0 h)
  refine fl_Tq.cal rfl rfl (fl_bo rfl) rfl ?_
  refine c2_rsec_q Kg.1 (by rw [g280]; omega) Kg.2.2.1 Kg.2.2.2 ?_
  obtain ⟨-, -, d3⟩ := t1_bare Kg.1 (by rw [g280]; omega) (by rw [g280]; exact z45)
  refine z313_D ?_
  have ej : z313_D_j48_0 (r_sec_m g) (0 : Int32) (0 : Int32) (r_sec_v g) 0 = (1 : Int32) := by
    unfold z313_D_j48_0
    rw [d3, if_pos c0]
  rw [ej, t2_k1]
  refine z313_C (fun h => absurd h (by rw [c1]; decide)) (fun h => absurd h (by rw [c1]; decide)) (fun h => absurd h (by rw [c1]; decide)) (fun _ => ?_)
  refine fl_Tq.cal rfl rfl (fl_bo rfl) rfl ?_
  refine r_bringBack_q (m := (r_sec_m g, l)) (fun g2 _ _ _ => ?_)
  refine z313_E ?_
  show some (Sum.inl (z313_E_j65_0 _ (1 : Int32) (0 + 1))) = some (Sum.inl (1 : Int32))
  unfold z313_E_j65_0
  rw [if_neg (by rw [c1]; decide)]
  rfl
/-! bestBand, bestMode: no CELLS -/
theorem t2_cmp_63 (_hall : ∀ c ∈ at_CM ++ at_CA, at_Valid at_XI (pw_P L xs) c) (hg : t2_Z (f, l)) (h0 : ((f, l) : fl_M) = at_m0) : fl_Tq (pw_P L xs) 165 0 (fl_args (am_mxl (pw_P L xs) 165) [lx_x, .inl a, .inl b]) [] (f, l) (t2_End L xs 319 [at_this, .inl a, .inl b]) := by
  have I : c0_I f f := hg.2.1
  obtain ⟨z2, -, -, -⟩ := t1_f0 h0
  have z2' : (f 280 2).toInt = 0 := by rw [z2]; rfl
  have e5 : f 1 5 = f 280 2 := I.1.1.1
  refine t2_qq (y := (-1 : Int32)) hg (fun Q k => ?_) (fun Q k => ?_)
  · show fl_Tq (pw_P L xs) 165 0 [some (.inr (.inr (.inl (0, 0)))), some (.inl a), some (.inl b), none] [] (f, l) Q
    exact x_bb_A (fun _ => k) (fun _ _ => k) (fun _ _ _ => k) (fun _ _ h => absurd (by rw [e5]; exact z2') h)
  · show fl_Tq (pw_P L xs) 319 0 [some (.inr (.inr (.inl (76, 277)))), some (.inl a), some (.inl b), none] [] (f, l) Q
    refine z319_A ?_
    refine fl_Tq.cal rfl rfl (fl_bo rfl) rfl ?_
    refine r_canRun_q ?_
    exact z319_B (fun _ => k) (fun _ _ => k) (fun _ _ _ => k) (fun _ _ h => absurd z2' h)
theorem t2_cmp_66 (_hall : ∀ c ∈ at_CM ++ at_CA, at_Valid at_XI (pw_P L xs) c) (hg : t2_Z (f, l)) (h0 : ((f, l) : fl_M) = at_m0) : fl_Tq (pw_P L xs) 168 0 (fl_args (am_mxl (pw_P L xs) 168) [lx_x, .inl a]) [] (f, l) (t2_End L xs 322 [at_this, .inl a]) := by
  have I : c0_I f f := hg.2.1
  obtain ⟨z2, -, -, -⟩ := t1_f0 h0
  have z2' : (f 280 2).toInt = 0 := by rw [z2]; rfl
  have e5 : f 1 5 = f 280 2 := I.1.1.1
  refine t2_qq (y := (-1 : Int32)) hg (fun Q k => ?_) (fun Q k => ?_)
  · show fl_Tq (pw_P L xs) 168 0 [some (.inr (.inr (.inl (0, 0)))), some (.inl a), none, none, none, none] [] (f, l) Q
    exact x_bm_A (fun _ => k) (fun _ _ => k) (fun _ h => absurd (by rw [e5]; exact z2') h)
  · show fl_Tq (pw_P L xs) 322 0 [some (.inr (.inr (.inl (76, 277)))), some (.inl a), none, none, none, none] [] (f, l) Q
    refine z322_A ?_
    refine fl_Tq.cal rfl rfl (fl_bo rfl) rfl ?_
    refine r_canRun_q ?_
    exact z322_B (fun _ => k) (fun _ _ => k) (fun _ h => absurd z2' h)
/-! module: no CELLS -/
theorem t2_cmp_25 (_hall : ∀ c ∈ at_CM ++ at_CA, at_Valid at_XI (pw_P L xs) c) (hg : t2_Z (f, l)) (h0 : ((f, l) : fl_M) = at_m0) : fl_Tq (pw_P L xs) 126 0 (fl_args (am_mxl (pw_P L xs) 126) [lx_x, .inl a, .inl b]) [] (f, l) (t2_End L xs 273 [at_this, .inl a, .inl b]) := by
  have I : c0_I f f := hg.2.1
  have c0 : (0 : Int32).toInt = 0 := rfl
  have c3 : (3 : Int32).toInt = 3 := by decide +kernel
  have c4 : (4 : Int32).toInt = 4 := by decide +kernel
  obtain ⟨z2, -, -, -⟩ := t1_f0 h0
  have z2' : (f 280 2).toInt = 0 := by rw [z2]; rfl
  have e5 : f 1 5 = f 280 2 := I.1.1.1
  refine t2_qq (y := (-1000000000 : Int32)) hg (fun Q k => ?_) (fun Q k => ?_)
  · show fl_Tq (pw_P L xs) 126 0 [some (.inr (.inr (.inl (0, 0)))), some (.inl a), some (.inl b), none, none] [] (f, l) Q
    refine x_mod_A (fun _ => k) (fun _ _ => k) (fun h1 _ h3 => ?_) (fun _ _ _ => k)
    rw [t2_w0, Classical.not_not, c0, c3] at h1
    rw [t2_min_i, e5, z2', at_mul32 (by rw [c4]; omega) (by rw [c4]; omega), c4] at h3
    omega
  · show fl_Tq (pw_P L xs) 273 0 [some (.inr (.inr (.inl (76, 277)))), some (.inl a), some (.inl b), none, none, none, none, none, none] [] (f, l) Q
    refine y_mod_A (fun _ => k) (fun _ _ _ => k) (fun h1 h2 _ => ?_) (fun _ _ => k)
    rw [r_i0, Classical.not_not, c0, c3] at h1
    rw [z2', at_mul32 (by rw [c4]; omega) (by rw [c4]; omega), c4] at h2
    omega
/-! rest, partBy -/
theorem t2_cmp_45 (_hall : ∀ c ∈ at_CM ++ at_CA, at_Valid at_XI (pw_P L xs) c) (hg : t2_Z (f, l)) : fl_Tq (pw_P L xs) 146 0 (fl_args (am_mxl (pw_P L xs) 146) [lx_x, .inl a]) [] (f, l) (t2_End L xs 283 [at_this, .inl a]) :=
  t2_x146 (fun v hv => ⟨⟨v, rfl⟩, t2_m283 hg.1.2.2 (fun w hw => ⟨by rw [show w = v from Int32.toInt.inj (hw.trans hv.symm)], hg⟩)⟩)
theorem t2_cmp_46 (_hall : ∀ c ∈ at_CM ++ at_CA, at_Valid at_XI (pw_P L xs) c) (hg : t2_Z (f, l)) : fl_Tq (pw_P L xs) 147 0 (fl_args (am_mxl (pw_P L xs) 147) [lx_x, .inl a]) [] (f, l) (t2_End L xs 284 [at_this, .inl a]) :=
  t2_x147 (fun x n hx hp => ⟨⟨x, rfl⟩, t2_m284 hg.1.2.2 (fun y n' hy hp' => ⟨by rw [show y = x from Int32.toInt.inj (by rw [hy, hx, t2_lp_u hp' hp])], hg⟩)⟩)
/-! eta -/
theorem x_he_q (n0 : f 181 5 = 0) {Q : Option fl_V → fl_M → Prop} (k : Q (some (.inl (0 : Int32))) (f, l)) : fl_Tq (pw_P L xs) 49 0 (fl_args (am_mxl (pw_P L xs) 49) [.inr (.inr (.inl (49, 181))), .inl a]) [] (f, l) Q := by
  show fl_Tq (pw_P L xs) 49 0 [some (.inr (.inr (.inl (49, 181)))), some (.inl a), none] [] (f, l) Q
  refine fl_Tq.stp rfl rfl (fl_bo rfl) rfl ?_
  refine fl_Tq.stp rfl rfl (fl_bo rfl) rfl ?_
  refine fl_Tq.stp rfl rfl (fl_bo rfl) rfl ?_
  refine fl_Tq.stp rfl rfl (fl_bo rfl) rfl ?_
  refine fl_Tq.gfV (k := 5) (v := f 181 5) rfl (fl_bo rfl) rfl rfl ?_
  rw [n0]
  refine fl_Tq.jt rfl (fl_bo rfl) (by decide +kernel) rfl ?_
  refine fl_Tq.stp rfl rfl (fl_bo rfl) rfl ?_
  exact fl_Tq.ret rfl rfl rfl k
theorem y_ae_q (n0 : f 280 2 = 0) {Q : Option fl_V → fl_M → Prop} (k : Q (some (.inl (0 : Int32))) (f, l)) : fl_Tq (pw_P L xs) 320 0 (fl_args (am_mxl (pw_P L xs) 320) [at_this, .inl a]) [] (f, l) Q := by
  show fl_Tq (pw_P L xs) 320 0 [some (.inr (.inr (.inl (76, 277)))), some (.inl a), none] [] (f, l) Q
  refine fl_Tq.stp rfl rfl (fl_bo rfl) rfl ?_
  refine fl_Tq.stp rfl rfl (fl_bo rfl) rfl ?_
  refine fl_Tq.stp rfl rfl (fl_bo rfl) rfl ?_
  refine fl_Tq.stp rfl rfl (fl_bo rfl) rfl ?_
  refine fl_Tq.stp rfl rfl (fl_bo rfl) rfl ?_
  refine fl_Tq.stp rfl rfl (fl_bo rfl) rfl ?_
  refine fl_Tq.ld (p := 280) (τ := 79) (n := 29780) (z := (0, 0, 0)) (k := 2) rfl (fl_bo rfl) rfl rfl (by decide) ?_
  show fl_Tq (pw_P L xs) 320 9 _ [.inl (f 280 2), .inl (Int32.ofInt 0)] (f, l) Q
  rw [n0]
  refine fl_Tq.jt rfl (fl_bo rfl) (by decide +kernel) rfl ?_
  refine fl_Tq.stp rfl rfl (fl_bo rfl) rfl ?_
  exact fl_Tq.ret rfl rfl rfl k
theorem t2_cmp_65 (hall : ∀ c ∈ at_CM ++ at_CA, at_Valid at_XI (pw_P L xs) c) (hg : t2_Z (f, l)) (h0 : ((f, l) : fl_M) = at_m0) : fl_Tq (pw_P L xs) 167 0 (fl_args (am_mxl (pw_P L xs) 167) [lx_x, .inl a]) [] (f, l) (t2_End L xs 321 [at_this, .inl a]) := by
  have c0 : (0 : Int32).toInt = 0 := rfl
  have c1 : (1 : Int32).toInt = 1 := by decide +kernel
  have c9 : (9999 : Int32).toInt = 9999 := by decide +kernel
  have c20 : (2000 : Int32).toInt = 2000 := by decide +kernel
  obtain ⟨z2, z7, -, -⟩ := t1_f0 h0
  have z7' : (f 280 7).toInt = 0 := by rw [z7]; rfl
  refine t2_trial (hall _ tz_c167_in) rfl hg ⟨lx_kx _, lx_ki _, True.intro⟩ rfl (fun m Z => t2_acallR (hall _ tz_c321_in) rfl Z ⟨at_k277 _, lx_ki _, True.intro⟩ rfl rfl rfl rfl (t2_z321 hall Z.1)) ?_
  show fl_Tq (pw_P L xs) 167 0 [some (.inr (.inr (.inl (0, 0)))), some (.inl a), none] [] (f, l) _
  refine x_et_A (fun h1 => ?_) (fun h1 => ?_)
  · refine ⟨f, _, rfl, rfl, fun p _ => rfl, ?_⟩
    show fl_Tq (pw_P L xs) 321 0 [some (.inr (.inr (.inl (76, 277)))), some (.inl a), none, none, none] [] (f, l) _
    exact z321_A (fun _ => rfl) (fun h => absurd h1 h)
  refine fl_Tq.cal rfl rfl (fl_bo rfl) rfl ?_
  refine t2_begun hg (fun M mf K => ?_)
  refine x_et_B ?_
  have RUN : ∀ g : t2_F, c2_K M g → g 280 = f 280 → ∀ k : Nat, k ≤ 2000 → c2_K (c2_runN M k) (r_runN g k) ∧ (r_runN g k 280 7).toInt = k ∧ c2_runN M k 181 5 = 0 ∧ r_runN g k 280 2 = 0 := fun g Kg g280 k hk => by
    obtain ⟨q, t, -⟩ := Kg.run (0 : Int32) (k := k) (by rw [g280]; omega)
    have n2 := t1_n Kg k (by rw [g280]; omega)
    rw [g280, z2] at n2
    rw [g280, z7'] at t
    exact ⟨q, by omega, by rw [q.1.1.1.1, n2], n2⟩
  have PN : ∀ k : Nat, k ≤ 2000 → ∀ p : Nat, p < 181 ∨ 271 ≤ p → c2_runN M k p = f p := fun k hk p hp => by rw [K.runP hp k (by omega), mf p hp]
  refine t2_for (n := 2000) (S := fun j => fl_Tq (pw_P L xs) 167 24 [some (.inr (.inr (.inl (0, 0)))), some (.inl a), some (.inl (Int32.ofNat j))] [] (c2_runN M j, l) _) (fun j hj hS => ?_) ?_
  · have ej : (Int32.ofNat j).toInt = j := at_ofN (by omega)
    obtain ⟨q, t, n5, -⟩ := RUN f K rfl j (by omega)
    refine x_et_C (fun h => absurd h (by rw [ej, c20]; omega)) (fun _ => ?_)
    refine fl_Tq.cal rfl rfl (fl_bo rfl) rfl ?_
    refine x_he_q n5 ?_
    refine x_et_D (fun _ _ => ?_) (fun _ h => absurd (by rw [ej, c20]; omega) h) (fun h => absurd c0 h)
    refine fl_Tq.cal rfl rfl (fl_bo rfl) rfl ?_
    refine c2_sec_q q.1 (by omega) q.2.1 ?_
    refine x_et_E ?_
    rw [t2_k1]
    exact hS
  · have e2 : (Int32.ofNat 2000).toInt = 2000 := at_ofN (by omega)
    have e21 : (Int32.ofNat (2000 + 1)).toInt = 2001 := at_ofN (by omega)
    obtain ⟨q, t, n5, -⟩ := RUN f K rfl 2000 (by omega)
    refine x_et_C (fun h => absurd h (by rw [e2, c20]; omega)) (fun _ => ?_)
    refine fl_Tq.cal rfl rfl (fl_bo rfl) rfl ?_
    refine x_he_q n5 ?_
    refine x_et_D (fun _ h => absurd h (by rw [e2, c20]; omega)) (fun _ _ => ?_) (fun h => absurd c0 h)
    rw [t2_k1]
    refine x_et_C (fun _ => ?_) (fun h => absurd (by rw [e21, c20]; omega) h)
    refine ⟨_, _, rfl, rfl, PN 2000 (by omega), ?_⟩
    show fl_Tq (pw_P L xs) 321 0 [some (.inr (.inr (.inl (76, 277)))), some (.inl a), none, none, none] [] (_, l) _
    refine z321_A (fun h => absurd h h1) (fun _ => ?_)
    refine fl_Tq.cal rfl rfl (fl_bo rfl) rfl ?_
    refine r_putAside_q (m := (c2_runN M 2000, l)) (fun g gp _ => ?_)
    have gp : ∀ p : Nat, p ≠ 283 → g p = c2_runN M 2000 p := gp
    have g280 : g 280 = f 280 := by rw [gp 280 (by decide), PN 2000 (by omega) 280 (by decide)]
    have Kg : c2_K M g := ⟨K.1.ext (fun p _ _ => rfl) (fun w _ _ => by rw [g280]), K.2.1, K.2.2.1.same (by rw [gp 279 (by decide), PN 2000 (by omega) 279 (by decide)]), by rw [gp 277 (by decide), PN 2000 (by omega) 277 (by decide)]; exact K.2.2.2⟩
    have RG := RUN g Kg g280
    refine z321_B ?_
    refine fl_Tq.cal rfl rfl (fl_bo rfl) rfl ?_
    refine y_ae_q (by rw [g280, z2]) ?_
    show fl_Tq (pw_P L xs) 321 24 [some (.inr (.inr (.inl (76, 277)))), some (.inl a), some (.inl (Int32.ofNat 0)), some (.inl (0 : Int32)), none] [.inl (0 : Int32)] (g, l) _
    refine z321_C ?_
    have loop : ∀ (d j : Nat) (b : Int32), j + d = 2000 → fl_Tq (pw_P L xs) 321 26 [some (.inr (.inr (.inl (76, 277)))), some (.inl a), some (.inl (Int32.ofNat j)), some (.inl b), some (.inl (0 : Int32))] [] (r_runN g j, l) (fun v2 _ => v2 = some (.inl (-1 : Int32))) := by
      intro d
      induction d with
      | zero =>
        intro j b hj
        have hj : j = 2000 := by omega
        subst hj
        refine z321_D (fun _ h => absurd h (by rw [e2, c20]; omega)) (fun _ h => absurd h (by rw [e2, c20]; omega)) (fun _ _ => ?_) (fun h => absurd c0 h)
        refine fl_Tq.cal rfl rfl (fl_bo rfl) rfl ?_
        refine r_bringBack_q (m := (r_runN g 2000, l)) (fun g2 _ _ _ => ?_)
        refine z321_F ?_
        show some (Sum.inl (z321_F_j77_0 a b (0 : Int32) 2000)) = some (Sum.inl (-1 : Int32))
        unfold z321_F_j77_0
        rw [if_pos c0]
      | succ d ih =>
        intro j b hj
        have ej : (Int32.ofNat j).toInt = j := at_ofN (by omega)
        obtain ⟨q, t, -, -⟩ := RG j (by omega)
        obtain ⟨-, -, -, n2⟩ := RG (j + 1) (by omega)
        refine z321_D (fun _ _ _ => ?_) (fun _ _ h => absurd (by rw [t, c9]; omega) h) (fun _ h => absurd (by rw [ej, c20]; omega) h) (fun h => absurd c0 h)
        refine fl_Tq.cal rfl rfl (fl_bo rfl) rfl ?_
        refine c2_rsec_q q.1 (by rw [t]; omega) q.2.2.1 q.2.2.2 ?_
        refine z321_E ?_
        rw [t2_k1]
        refine fl_Tq.cal rfl rfl (fl_bo rfl) rfl ?_
        refine y_ae_q n2 ?_
        refine z321_G ?_
        exact ih (j + 1) _ (by omega)
    exact loop 2000 0 (0 : Int32) (by omega)
end P1

end

/-! 95.10.lawx.lean.txt -/
section
/-! ===== printed by wip/gen/lawgen3.py: contracts, codes that are wanting ===== -/
theorem lx_lcs (y : Int64) : am_c1 .eq (lg_cmp y y) = true := by
  have h : ¬ (y > y) := by
    rw [gt_iff_lt, Int64.lt_iff_toInt_lt]
    exact Int.lt_irrefl _
  unfold lg_cmp
  rw [if_neg h, if_pos rfl]
  rfl
def at_c101 : at_C := (101, [.inl (0, some 0), .inr (false, -2147483648, 2147483647), .inr (false, -2147483648, 2147483647), .inr (false, -2147483648, 2147483647)], [], some (.inr (false, -1, 15)), false, [(1, false, 5, 5), (18, false, 0, 18), (19, false, 2, 2), (20, false, 0, 0), (21, false, 0, 10), (25, false, 5, 16), (27, false, 6, 8), (28, false, 0, 29), (29, false, 0, 2), (30, false, 0, 23), (31, false, 0, 11), (32, false, 0, 47), (33, false, 0, 39), (34, false, 3, 6), (35, false, 0, 10), (36, false, 0, 3), (37, false, 2, 3), (38, false, 0, 71), (40, false, 2, 3), (41, false, 0, 95), (42, false, 0, 18), (43, false, 2, 2), (44, false, 0, 31), (45, false, 0, 10), (46, false, 2, 3), (47, false, 0, 15), (48, false, 0, 15), (73, false, 1, 2), (74, false, 0, 19)])
theorem at_c101_in : at_c101 ∈ at_CM ++ at_CA := List.mem_of_getElem? (i := 17) rfl
def at_c102 : at_C := (102, [.inl (0, some 0), .inr (false, -2147483648, 2147483647), .inr (false, -2147483648, 2147483647)], [], some (.inr (false, 0, 1)), false, [(18, false, 2, 4), (25, false, 5, 16), (27, false, 6, 8), (28, false, 0, 29), (29, false, 0, 2), (30, false, 0, 23), (31, false, 0, 11), (32, false, 0, 47), (33, false, 0, 39), (34, false, 3, 6), (35, false, 0, 10), (36, false, 0, 3), (37, false, 2, 3), (38, false, 0, 71), (40, false, 2, 3), (41, false, 0, 95), (42, false, 0, 18), (43, false, 2, 2), (44, false, 0, 31), (45, false, 0, 10), (46, false, 2, 3), (47, false, 0, 15), (48, false, 0, 15), (73, false, 1, 2), (74, false, 0, 19)])
theorem at_c102_in : at_c102 ∈ at_CM ++ at_CA := List.mem_of_getElem? (i := 18) rfl
def at_c103 : at_C := (103, [.inl (0, some 0), .inr (false, -2147483648, 2147483647), .inr (false, -2147483648, 2147483647)], [], some (.inr (false, 0, 1)), false, [(18, false, 6, 6), (25, false, 5, 16), (27, false, 6, 8), (28, false, 0, 29), (29, false, 0, 2), (30, false, 0, 23), (31, false, 0, 11), (32, false, 0, 47), (33, false, 0, 39), (34, false, 3, 6), (35, false, 0, 10), (36, false, 0, 3), (37, false, 2, 3), (38, false, 0, 71), (40, false, 2, 3), (41, false, 0, 95), (42, false, 0, 18), (43, false, 2, 2), (44, false, 0, 31), (45, false, 0, 10), (46, false, 2, 3), (47, false, 0, 15), (48, false, 0, 15), (73, false, 1, 2), (74, false, 0, 19)])
theorem at_c103_in : at_c103 ∈ at_CM ++ at_CA := List.mem_of_getElem? (i := 19) rfl
def at_c104 : at_C := (104, [.inl (0, some 0), .inr (false, -2147483648, 2147483647), .inr (false, -2147483648, 2147483647)], [], some (.inr (false, 0, 1)), false, [(4, false, 0, 29), (25, false, 5, 16), (27, false, 6, 8), (28, false, 0, 29), (29, false, 0, 2), (30, false, 0, 23), (31, false, 0, 11), (32, false, 0, 47), (33, false, 0, 39), (34, false, 3, 6), (35, false, 0, 10), (36, false, 0, 3), (37, false, 2, 3), (38, false, 0, 71), (40, false, 2, 3), (41, false, 0, 95), (42, false, 0, 18), (43, false, 2, 2), (44, false, 0, 31), (45, false, 0, 10), (46, false, 2, 3), (47, false, 0, 15), (48, false, 0, 15), (73, false, 1, 2), (74, false, 0, 19)])
theorem at_c104_in : at_c104 ∈ at_CM ++ at_CA := List.mem_of_getElem? (i := 20) rfl
def at_c105 : at_C := (105, [.inl (0, some 0), .inr (false, -2147483648, 2147483647)], [], some (.inr (false, -2147483648, 2147483647)), false, [(1, false, 6, 16), (4, false, 0, 29), (10, false, 3, 6), (11, false, 0, 10), (12, false, 0, 3), (13, false, 2, 3), (14, false, -69, 140), (16, false, 2, 3), (17, false, -93, 188), (18, false, 0, 0), (18, false, 2, 4), (18, false, 6, 18), (19, false, 2, 2), (20, false, 0, 31), (21, false, 0, 10), (25, false, 5, 16), (27, false, 6, 8), (28, false, 0, 29), (29, false, 0, 2), (30, false, 0, 23), (31, false, 0, 11), (32, false, 0, 47), (33, false, 0, 39), (34, false, 3, 6), (35, false, 0, 10), (36, false, 0, 3), (37, false, 2, 3), (38, false, 0, 71), (40, false, 2, 3), (41, false, 0, 95), (42, false, 0, 18), (43, false, 2, 2), (44, false, 0, 31), (45, false, 0, 10), (46, false, 2, 3), (47, false, 0, 15), (48, false, 0, 15), (73, false, 1, 2), (74, false, 0, 19)])
theorem at_c105_in : at_c105 ∈ at_CM ++ at_CA := List.mem_of_getElem? (i := 59) rfl
def at_c106 : at_C := (106, [.inl (0, some 0)], [], some (.inr (false, 0, 1)), false, [(1, false, 7, 7), (25, false, 5, 16), (27, false, 6, 8), (28, false, 0, 29), (29, false, 0, 2), (30, false, 0, 23), (31, false, 0, 11), (32, false, 0, 47), (33, false, 0, 39), (34, false, 3, 6), (35, false, 0, 10), (36, false, 0, 3), (37, false, 2, 3), (38, false, 0, 71), (40, false, 2, 3), (41, false, 0, 95), (42, false, 0, 18), (43, false, 2, 2), (44, false, 0, 31), (45, false, 0, 10), (46, false, 2, 3), (47, false, 0, 15), (48, false, 0, 15), (73, false, 1, 2), (74, false, 0, 19)])
theorem at_c106_in : at_c106 ∈ at_CM ++ at_CA := List.mem_of_getElem? (i := 60) rfl
def at_c107 : at_C := (107, [.inl (0, some 0)], [], some (.inr (false, 0, 1)), false, [(1, false, 7, 7), (1, false, 9, 9), (25, false, 5, 16), (27, false, 6, 8), (28, false, 0, 29), (29, false, 0, 2), (30, false, 0, 23), (31, false, 0, 11), (32, false, 0, 47), (33, false, 0, 39), (34, false, 3, 6), (35, false, 0, 10), (36, false, 0, 3), (37, false, 2, 3), (38, false, 0, 71), (40, false, 2, 3), (41, false, 0, 95), (42, false, 0, 18), (43, false, 2, 2), (44, false, 0, 31), (45, false, 0, 10), (46, false, 2, 3), (47, false, 0, 15), (48, false, 0, 15), (73, false, 1, 2), (74, false, 0, 19)])
theorem at_c107_in : at_c107 ∈ at_CM ++ at_CA := List.mem_of_getElem? (i := 61) rfl
def at_c108 : at_C := (108, [.inl (0, some 0), .inr (false, -2147483648, 2147483647)], [], some (.inr (false, 0, 1)), false, [(10, false, 3, 3), (25, false, 5, 16), (27, false, 6, 8), (28, false, 0, 29), (29, false, 0, 2), (30, false, 0, 23), (31, false, 0, 11), (32, false, 0, 47), (33, false, 0, 39), (34, false, 3, 6), (35, false, 0, 10), (36, false, 0, 3), (37, false, 2, 3), (38, false, 0, 71), (40, false, 2, 3), (41, false, 0, 95), (42, false, 0, 18), (43, false, 2, 2), (44, false, 0, 31), (45, false, 0, 10), (46, false, 2, 3), (47, false, 0, 15), (48, false, 0, 15), (73, false, 1, 2), (74, false, 0, 19)])
theorem at_c108_in : at_c108 ∈ at_CM ++ at_CA := List.mem_of_getElem? (i := 62) rfl
def at_c109 : at_C := (109, [.inl (0, some 0), .inr (false, -2147483648, 2147483647), .inr (false, -2147483648, 2147483647)], [], some (.inr (false, 0, 1)), false, [(5, false, 0, 2), (25, false, 5, 16), (27, false, 6, 8), (28, false, 0, 29), (29, false, 0, 2), (30, false, 0, 23), (31, false, 0, 11), (32, false, 0, 47), (33, false, 0, 39), (34, false, 3, 6), (35, false, 0, 10), (36, false, 0, 3), (37, false, 2, 3), (38, false, 0, 71), (40, false, 2, 3), (41, false, 0, 95), (42, false, 0, 18), (43, false, 2, 2), (44, false, 0, 31), (45, false, 0, 10), (46, false, 2, 3), (47, false, 0, 15), (48, false, 0, 15), (73, false, 1, 2), (74, false, 0, 19)])
theorem at_c109_in : at_c109 ∈ at_CM ++ at_CA := List.mem_of_getElem? (i := 63) rfl
def at_c110 : at_C := (110, [.inl (0, some 0), .inr (false, -2147483648, 2147483647), .inr (false, -2147483648, 2147483647)], [], some (.inr (false, -1, 6)), false, [(3, false, 6, 6), (7, false, 0, 11), (25, false, 5, 16), (27, false, 6, 8), (28, false, 0, 29), (29, false, 0, 2), (30, false, 0, 23), (31, false, 0, 11), (32, false, 0, 47), (33, false, 0, 39), (34, false, 3, 6), (35, false, 0, 10), (36, false, 0, 3), (37, false, 2, 3), (38, false, 0, 71), (40, false, 2, 3), (41, false, 0, 95), (42, false, 0, 18), (43, false, 2, 2), (44, false, 0, 31), (45, false, 0, 10), (46, false, 2, 3), (47, false, 0, 15), (48, false, 0, 15), (73, false, 1, 2), (74, false, 0, 19)])
theorem at_c110_in : at_c110 ∈ at_CM ++ at_CA := List.mem_of_getElem? (i := 64) rfl
def at_c111 : at_C := (111, [.inl (0, some 0)], [], some (.inr (false, -2147483648, 2147483647)), false, [(10, false, 4, 4), (25, false, 5, 16), (27, false, 6, 8), (28, false, 0, 29), (29, false, 0, 2), (30, false, 0, 23), (31, false, 0, 11), (32, false, 0, 47), (33, false, 0, 39), (34, false, 3, 6), (35, false, 0, 10), (36, false, 0, 3), (37, false, 2, 3), (38, false, 0, 71), (40, false, 2, 3), (41, false, 0, 95), (42, false, 0, 18), (43, false, 2, 2), (44, false, 0, 31), (45, false, 0, 10), (46, false, 2, 3), (47, false, 0, 15), (48, false, 0, 15), (73, false, 1, 2), (74, false, 0, 19)])
theorem at_c111_in : at_c111 ∈ at_CM ++ at_CA := List.mem_of_getElem? (i := 65) rfl
def at_c112 : at_C := (112, [.inl (0, some 0), .inr (false, -2147483648, 2147483647), .inr (false, -2147483648, 2147483647)], [], some (.inr (false, 0, 1)), false, [(6, false, 0, 23), (25, false, 5, 16), (27, false, 6, 8), (28, false, 0, 29), (29, false, 0, 2), (30, false, 0, 23), (31, false, 0, 11), (32, false, 0, 47), (33, false, 0, 39), (34, false, 3, 6), (35, false, 0, 10), (36, false, 0, 3), (37, false, 2, 3), (38, false, 0, 71), (40, false, 2, 3), (41, false, 0, 95), (42, false, 0, 18), (43, false, 2, 2), (44, false, 0, 31), (45, false, 0, 10), (46, false, 2, 3), (47, false, 0, 15), (48, false, 0, 15), (73, false, 1, 2), (74, false, 0, 19)])
theorem at_c112_in : at_c112 ∈ at_CM ++ at_CA := List.mem_of_getElem? (i := 66) rfl
def at_c113 : at_C := (113, [.inl (0, some 0), .inr (false, -2147483648, 2147483647)], [], some (.inr (false, 0, 1)), false, [(22, false, 2, 3), (23, false, 0, 15), (24, false, 0, 15), (25, false, 5, 16), (27, false, 6, 8), (28, false, 0, 29), (29, false, 0, 2), (30, false, 0, 23), (31, false, 0, 11), (32, false, 0, 47), (33, false, 0, 39), (34, false, 3, 6), (35, false, 0, 10), (36, false, 0, 3), (37, false, 2, 3), (38, false, 0, 71), (40, false, 2, 3), (41, false, 0, 95), (42, false, 0, 18), (43, false, 2, 2), (44, false, 0, 31), (45, false, 0, 10), (46, false, 2, 3), (47, false, 0, 15), (48, false, 0, 15), (73, false, 1, 2), (74, false, 0, 19)])
theorem at_c113_in : at_c113 ∈ at_CM ++ at_CA := List.mem_of_getElem? (i := 68) rfl
def at_c114 : at_C := (114, [.inl (0, some 0), .inr (false, -2147483648, 2147483647), .inr (false, -2147483648, 2147483647)], [], some (.inr (false, -1, 24)), false, [(3, false, 7, 7), (8, false, 0, 47), (25, false, 5, 16), (27, false, 6, 8), (28, false, 0, 29), (29, false, 0, 2), (30, false, 0, 23), (31, false, 0, 11), (32, false, 0, 47), (33, false, 0, 39), (34, false, 3, 6), (35, false, 0, 10), (36, false, 0, 3), (37, false, 2, 3), (38, false, 0, 71), (40, false, 2, 3), (41, false, 0, 95), (42, false, 0, 18), (43, false, 2, 2), (44, false, 0, 31), (45, false, 0, 10), (46, false, 2, 3), (47, false, 0, 15), (48, false, 0, 15), (73, false, 1, 2), (74, false, 0, 19)])
theorem at_c114_in : at_c114 ∈ at_CM ++ at_CA := List.mem_of_getElem? (i := 69) rfl
def at_c115 : at_C := (115, [.inl (0, some 0), .inr (false, -2147483648, 2147483647), .inr (false, 0, 1), .inr (false, -2147483648, 2147483647), .inr (false, -2147483648, 2147483647), .inr (false, -2147483648, 2147483647)], [], some (.inr (false, -1, 8)), false, [(3, false, 8, 8), (9, false, 0, 39), (25, false, 5, 16), (27, false, 6, 8), (28, false, 0, 29), (29, false, 0, 2), (30, false, 0, 23), (31, false, 0, 11), (32, false, 0, 47), (33, false, 0, 39), (34, false, 3, 6), (35, false, 0, 10), (36, false, 0, 3), (37, false, 2, 3), (38, false, 0, 71), (40, false, 2, 3), (41, false, 0, 95), (42, false, 0, 18), (43, false, 2, 2), (44, false, 0, 31), (45, false, 0, 10), (46, false, 2, 3), (47, false, 0, 15), (48, false, 0, 15), (73, false, 1, 2), (74, false, 0, 19)])
theorem at_c115_in : at_c115 ∈ at_CM ++ at_CA := List.mem_of_getElem? (i := 70) rfl
def at_c116 : at_C := (116, [.inl (0, some 0)], [], some (.inr (false, 0, 8)), false, [(3, false, 8, 8), (25, false, 5, 16), (27, false, 6, 8), (28, false, 0, 29), (29, false, 0, 2), (30, false, 0, 23), (31, false, 0, 11), (32, false, 0, 47), (33, false, 0, 39), (34, false, 3, 6), (35, false, 0, 10), (36, false, 0, 3), (37, false, 2, 3), (38, false, 0, 71), (40, false, 2, 3), (41, false, 0, 95), (42, false, 0, 18), (43, false, 2, 2), (44, false, 0, 31), (45, false, 0, 10), (46, false, 2, 3), (47, false, 0, 15), (48, false, 0, 15), (73, false, 1, 2), (74, false, 0, 19)])
theorem at_c116_in : at_c116 ∈ at_CM ++ at_CA := List.mem_of_getElem? (i := 71) rfl
def at_c117 : at_C := (117, [.inl (0, some 0)], [], some (.inr (false, 0, 24)), false, [(3, false, 7, 7), (25, false, 5, 16), (27, false, 6, 8), (28, false, 0, 29), (29, false, 0, 2), (30, false, 0, 23), (31, false, 0, 11), (32, false, 0, 47), (33, false, 0, 39), (34, false, 3, 6), (35, false, 0, 10), (36, false, 0, 3), (37, false, 2, 3), (38, false, 0, 71), (40, false, 2, 3), (41, false, 0, 95), (42, false, 0, 18), (43, false, 2, 2), (44, false, 0, 31), (45, false, 0, 10), (46, false, 2, 3), (47, false, 0, 15), (48, false, 0, 15), (73, false, 1, 2), (74, false, 0, 19)])
theorem at_c117_in : at_c117 ∈ at_CM ++ at_CA := List.mem_of_getElem? (i := 72) rfl
def at_c118 : at_C := (118, [.inl (0, some 0)], [], some (.inr (false, -2147483648, 2147483647)), false, [(1, false, 6, 16), (4, false, 0, 29), (10, false, 3, 6), (11, false, 0, 10), (12, false, 0, 3), (13, false, 2, 3), (14, false, -69, 140), (16, false, 2, 3), (17, false, -93, 188), (18, false, 0, 0), (18, false, 2, 4), (18, false, 6, 18), (19, false, 2, 2), (20, false, 0, 31), (21, false, 0, 10), (25, false, 5, 16), (27, false, 6, 8), (28, false, 0, 29), (29, false, 0, 2), (30, false, 0, 23), (31, false, 0, 11), (32, false, 0, 47), (33, false, 0, 39), (34, false, 3, 6), (35, false, 0, 10), (36, false, 0, 3), (37, false, 2, 3), (38, false, 0, 71), (40, false, 2, 3), (41, false, 0, 95), (42, false, 0, 18), (43, false, 2, 2), (44, false, 0, 31), (45, false, 0, 10), (46, false, 2, 3), (47, false, 0, 15), (48, false, 0, 15), (73, false, 1, 2), (74, false, 0, 19)])
theorem at_c118_in : at_c118 ∈ at_CM ++ at_CA := List.mem_of_getElem? (i := 75) rfl
def at_c119 : at_C := (119, [.inl (0, some 0)], [], some (.inr (false, -1, 19)), false, [(1, false, 5, 16), (3, false, 6, 8), (4, false, 0, 29), (5, false, 0, 2), (6, false, 0, 23), (7, false, 0, 11), (8, false, 0, 47), (9, false, 0, 39), (10, false, 3, 6), (11, false, 0, 10), (12, false, 0, 3), (13, false, 2, 3), (14, false, 0, 71), (16, false, 2, 3), (17, false, 0, 95), (18, false, 0, 18), (19, false, 2, 2), (20, false, 0, 31), (21, false, 0, 10), (22, false, 2, 3), (23, false, 0, 15), (24, false, 0, 15), (73, false, 2, 2), (74, false, 0, 19)])
theorem at_c119_in : at_c119 ∈ at_CM ++ at_CA := List.mem_of_getElem? (i := 77) rfl
def at_c120 : at_C := (120, [.inl (0, some 0)], [], some (.inr (false, -2147483648, 2147483647)), false, [(25, false, 5, 16), (27, false, 6, 8), (28, false, 0, 29), (29, false, 0, 2), (30, false, 0, 23), (31, false, 0, 11), (32, false, 0, 47), (33, false, 0, 39), (34, false, 3, 6), (35, false, 0, 10), (36, false, 0, 3), (37, false, 2, 3), (38, false, 0, 71), (40, false, 2, 3), (41, false, 0, 95), (42, false, 0, 18), (43, false, 2, 2), (44, false, 0, 31), (45, false, 0, 10), (46, false, 2, 3), (47, false, 0, 15), (48, false, 0, 15), (73, false, 1, 2), (74, false, 0, 19)])
theorem at_c120_in : at_c120 ∈ at_CM ++ at_CA := List.mem_of_getElem? (i := 80) rfl
def at_c121 : at_C := (121, [.inl (0, some 0)], [], some (.inr (false, -2147483648, 2147483647)), false, [(1, false, 5, 16), (3, false, 6, 8), (4, false, 0, 29), (5, false, 0, 2), (6, false, 0, 23), (7, false, 0, 11), (8, false, 0, 47), (9, false, 0, 39), (10, false, 3, 6), (11, false, 0, 10), (12, false, 0, 3), (13, false, 2, 3), (14, false, 0, 71), (16, false, 2, 3), (17, false, 0, 95), (18, false, 0, 18), (19, false, 2, 2), (20, false, 0, 31), (21, false, 0, 10), (22, false, 2, 3), (23, false, 0, 15), (24, false, 0, 15), (25, false, 5, 16), (27, false, 6, 8), (28, false, 0, 29), (29, false, 0, 2), (30, false, 0, 23), (31, false, 0, 11), (32, false, 0, 47), (33, false, 0, 39), (34, false, 3, 6), (35, false, 0, 10), (36, false, 0, 3), (37, false, 2, 3), (38, false, 0, 71), (40, false, 2, 3), (41, false, 0, 95), (42, false, 0, 18), (43, false, 2, 2), (44, false, 0, 31), (45, false, 0, 10), (46, false, 2, 3), (47, false, 0, 15), (48, false, 0, 15), (73, false, 1, 2), (74, false, 0, 19)])
theorem at_c121_in : at_c121 ∈ at_CM ++ at_CA := List.mem_of_getElem? (i := 81) rfl
def at_c242 : at_C := (242, [.inl (76, some 277)], [], some (.inr (false, -1, 19)), false, [(79, false, 0, 0), (79, false, 2, 1419)])
theorem at_c242_in : at_c242 ∈ at_CM ++ at_CA := List.mem_of_getElem? (i := 3) rfl
def at_c243 : at_C := (243, [.inl (76, some 277), .inr (false, -2147483648, 2147483647), .inr (false, -2147483648, 2147483647), .inr (false, -2147483648, 2147483647)], [], some (.inr (false, -1, 15)), false, [(79, false, 0, 2), (79, false, 1420, 29779), (79, true, 0, 60)])
theorem at_c243_in : at_c243 ∈ at_CM ++ at_CA := List.mem_of_getElem? (i := 180) rfl
def at_c244 : at_C := (244, [.inl (76, some 277), .inr (false, -2147483648, 2147483647), .inr (false, -2147483648, 2147483647)], [], some (.inr (false, 0, 1)), false, [(79, false, 0, 1), (79, false, 1420, 29779), (79, true, 1, 1)])
theorem at_c244_in : at_c244 ∈ at_CM ++ at_CA := List.mem_of_getElem? (i := 181) rfl
def at_c245 : at_C := (245, [.inl (76, some 277), .inr (false, -2147483648, 2147483647), .inr (false, -2147483648, 2147483647)], [], some (.inr (false, 0, 1)), false, [(79, false, 0, 1), (79, false, 1420, 29779), (79, true, 3, 3)])
theorem at_c245_in : at_c245 ∈ at_CM ++ at_CA := List.mem_of_getElem? (i := 182) rfl
def at_c247 : at_C := (247, [.inl (76, some 277), .inr (false, -2147483648, 2147483647), .inr (false, -2147483648, 2147483647)], [], some (.inr (false, 0, 1)), false, [(79, false, 0, 1), (79, false, 34, 63), (79, false, 1420, 29779)])
theorem at_c247_in : at_c247 ∈ at_CM ++ at_CA := List.mem_of_getElem? (i := 183) rfl
def at_c250 : at_C := (250, [.inl (76, some 277), .inr (false, -2147483648, 2147483647)], [], some (.inr (false, -2147483648, 2147483647)), false, [(76, false, 4, 4), (76, false, 6, 6), (79, false, 0, 1), (79, false, 3, 16), (79, false, 20, 63), (79, false, 167, 314), (79, false, 444, 29779), (79, true, 1, 1), (79, true, 3, 4), (79, true, 7, 8), (79, true, 10, 60), (81, false, 0, 15)])
theorem at_c250_in : at_c250 ∈ at_CM ++ at_CA := List.mem_of_getElem? (i := 215) rfl
def at_c251 : at_C := (251, [.inl (76, some 277)], [], some (.inr (false, 0, 1)), false, [(79, false, 0, 1), (79, false, 3, 3), (79, false, 1420, 29779)])
theorem at_c251_in : at_c251 ∈ at_CM ++ at_CA := List.mem_of_getElem? (i := 216) rfl
def at_c252 : at_C := (252, [.inl (76, some 277)], [], some (.inr (false, 0, 1)), false, [(79, false, 0, 1), (79, false, 3, 3), (79, false, 5, 5), (79, false, 1420, 29779)])
theorem at_c252_in : at_c252 ∈ at_CM ++ at_CA := List.mem_of_getElem? (i := 217) rfl
def at_c254 : at_C := (254, [.inl (76, some 277), .inr (false, -2147483648, 2147483647)], [], some (.inr (false, 0, 1)), false, [(79, false, 0, 1), (79, false, 6, 6), (79, false, 1420, 29779)])
theorem at_c254_in : at_c254 ∈ at_CM ++ at_CA := List.mem_of_getElem? (i := 219) rfl
def at_c255 : at_C := (255, [.inl (76, some 277)], [], some (.inr (false, -2147483648, 2147483647)), false, [(79, false, 0, 1), (79, false, 22, 22), (79, false, 1420, 29779)])
theorem at_c255_in : at_c255 ∈ at_CM ++ at_CA := List.mem_of_getElem? (i := 220) rfl
def at_c256 : at_C := (256, [.inl (76, some 277), .inr (false, -2147483648, 2147483647), .inr (false, -2147483648, 2147483647)], [], some (.inr (false, 0, 1)), false, [(79, false, 0, 1), (79, false, 315, 338), (79, false, 1420, 29779)])
theorem at_c256_in : at_c256 ∈ at_CM ++ at_CA := List.mem_of_getElem? (i := 221) rfl
def at_c257 : at_C := (257, [.inl (76, some 277), .inr (false, -2147483648, 2147483647)], [], some (.inr (false, 0, 1)), false, [(79, false, 0, 1), (79, false, 339, 443), (79, false, 1420, 29779)])
theorem at_c257_in : at_c257 ∈ at_CM ++ at_CA := List.mem_of_getElem? (i := 222) rfl
def at_c258 : at_C := (258, [.inl (76, some 277), .inr (false, -2147483648, 2147483647), .inr (false, -2147483648, 2147483647)], [], some (.inr (false, 0, 1)), false, [(79, false, 0, 1), (79, false, 64, 66), (79, false, 1420, 29779)])
theorem at_c258_in : at_c258 ∈ at_CM ++ at_CA := List.mem_of_getElem? (i := 223) rfl
def at_c259 : at_C := (259, [.inl (76, some 277), .inr (false, -2147483648, 2147483647), .inr (false, -2147483648, 2147483647)], [], some (.inr (false, -1, 6)), false, [(79, false, 0, 1), (79, false, 17, 17), (79, false, 67, 78), (79, false, 1420, 29779)])
theorem at_c259_in : at_c259 ∈ at_CM ++ at_CA := List.mem_of_getElem? (i := 224) rfl
def at_c260 : at_C := (260, [.inl (76, some 277), .inr (false, -2147483648, 2147483647), .inr (false, -2147483648, 2147483647)], [], some (.inr (false, -1, 24)), false, [(79, false, 0, 1), (79, false, 19, 19), (79, false, 119, 166), (79, false, 1420, 29779)])
theorem at_c260_in : at_c260 ∈ at_CM ++ at_CA := List.mem_of_getElem? (i := 225) rfl
def at_c261 : at_C := (261, [.inl (76, some 277), .inr (false, -2147483648, 2147483647), .inr (false, 0, 1), .inr (false, -2147483648, 2147483647), .inr (false, -2147483648, 2147483647), .inr (false, -2147483648, 2147483647)], [], some (.inr (false, -1, 8)), false, [(79, false, 0, 1), (79, false, 18, 18), (79, false, 79, 118), (79, false, 1420, 29779)])
theorem at_c261_in : at_c261 ∈ at_CM ++ at_CA := List.mem_of_getElem? (i := 226) rfl
def at_c263 : at_C := (263, [.inl (76, some 277)], [], some (.inr (false, 0, 8)), false, [(79, false, 0, 1), (79, false, 18, 18), (79, false, 79, 166), (79, false, 1420, 29779)])
theorem at_c263_in : at_c263 ∈ at_CM ++ at_CA := List.mem_of_getElem? (i := 227) rfl
def at_c264 : at_C := (264, [.inl (76, some 277)], [], some (.inr (false, 0, 24)), false, [(79, false, 0, 1), (79, false, 19, 19), (79, false, 79, 166), (79, false, 1420, 29779)])
theorem at_c264_in : at_c264 ∈ at_CM ++ at_CA := List.mem_of_getElem? (i := 228) rfl
def at_c267 : at_C := (267, [.inl (76, some 277)], [], some (.inr (false, -2147483648, 2147483647)), false, [(76, false, 4, 4), (76, false, 6, 6), (79, false, 0, 1), (79, false, 3, 16), (79, false, 20, 63), (79, false, 167, 314), (79, false, 444, 29779), (79, true, 1, 1), (79, true, 3, 4), (79, true, 7, 8), (79, true, 10, 60), (81, false, 0, 15)])
theorem at_c267_in : at_c267 ∈ at_CM ++ at_CA := List.mem_of_getElem? (i := 231) rfl
def at_c323 : at_C := (323, [.inl (76, some 277)], [], some (.inr (false, -2147483648, 2147483647)), false, [(80, false, 0, 29779)])
theorem at_c323_in : at_c323 ∈ at_CM ++ at_CA := List.mem_of_getElem? (i := 12) rfl
def at_c324 : at_C := (324, [.inl (76, some 277)], [], some (.inr (false, -2147483648, 2147483647)), false, [(79, false, 0, 29779)])
theorem at_c324_in : at_c324 ∈ at_CM ++ at_CA := List.mem_of_getElem? (i := 13) rfl
set_option maxRecDepth 1000000 in
theorem lx_k743 : pw_code 0 743 = some (.iadd) := by decide +kernel
set_option maxRecDepth 1000000 in
theorem lx_k744 : pw_code 0 744 = some (.iaload) := by decide +kernel
set_option maxRecDepth 1000000 in
theorem lx_k745 : pw_code 0 745 = some (.aload_n 0) := by decide +kernel
set_option maxRecDepth 1000000 in
theorem lx_k746 : pw_code 0 746 = some (.iload_n 3) := by decide +kernel
set_option maxRecDepth 1000000 in
theorem lx_k747 : pw_code 0 747 = some (.iconst 2) := by decide +kernel
set_option maxRecDepth 1000000 in
theorem lx_k748 : pw_code 0 748 = some (.iadd) := by decide +kernel
set_option maxRecDepth 1000000 in
theorem lx_k749 : pw_code 0 749 = some (.iaload) := by decide +kernel
set_option maxRecDepth 1000000 in
theorem lx_k750 : pw_code 0 750 = some (.ifCond .eq 7) := by decide +kernel
set_option maxRecDepth 1000000 in
theorem lx_k753 : pw_code 0 753 = some (.iconst 1) := by decide +kernel
set_option maxRecDepth 1000000 in
theorem lx_k754 : pw_code 0 754 = some (.goto 4) := by decide +kernel
set_option maxRecDepth 1000000 in
theorem lx_k757 : pw_code 0 757 = some (.iconst 0) := by decide +kernel
set_option maxRecDepth 1000000 in
theorem lx_k758 : pw_code 0 758 = some (.aload_n 0) := by decide +kernel
set_option maxRecDepth 1000000 in
theorem lx_k759 : pw_code 0 759 = some (.iload_n 3) := by decide +kernel
set_option maxRecDepth 1000000 in
theorem lx_k760 : pw_code 0 760 = some (.iconst 3) := by decide +kernel
set_option maxRecDepth 1000000 in
theorem lx_k761 : pw_code 0 761 = some (.iadd) := by decide +kernel
set_option maxRecDepth 1000000 in
theorem lx_k762 : pw_code 0 762 = some (.iaload) := by decide +kernel
set_option maxRecDepth 1000000 in
theorem lx_k763 : pw_code 0 763 = some (.aload_n 0) := by decide +kernel
set_option maxRecDepth 1000000 in
theorem lx_k764 : pw_code 0 764 = some (.iload_n 3) := by decide +kernel
set_option maxRecDepth 1000000 in
theorem lx_k765 : pw_code 0 765 = some (.iconst 4) := by decide +kernel
set_option maxRecDepth 1000000 in
theorem lx_k766 : pw_code 0 766 = some (.iadd) := by decide +kernel
set_option maxRecDepth 1000000 in
theorem lx_k767 : pw_code 0 767 = some (.iaload) := by decide +kernel
set_option maxRecDepth 1000000 in
theorem lx_k768 : pw_code 0 768 = some (.aload_n 0) := by decide +kernel
set_option maxRecDepth 1000000 in
theorem lx_k769 : pw_code 0 769 = some (.iload_n 3) := by decide +kernel
set_option maxRecDepth 1000000 in
theorem lx_k770 : pw_code 0 770 = some (.iconst 5) := by decide +kernel
set_option maxRecDepth 1000000 in
theorem lx_k771 : pw_code 0 771 = some (.iadd) := by decide +kernel
set_option maxRecDepth 1000000 in
theorem lx_k772 : pw_code 0 772 = some (.iaload) := by decide +kernel
set_option maxRecDepth 1000000 in
theorem lx_k773 : pw_code 0 773 = some (.invokevirtual 80) := by decide +kernel
set_option maxRecDepth 1000000 in
theorem lx_k776 : pw_code 0 776 = some (.if_icmp .eq 1255) := by decide +kernel
set_option maxRecDepth 1000000 in
theorem lx_l17 : am_cl nw_P0 0 (.invokevirtual 17) = some (243, 4) := by decide +kernel
set_option maxRecDepth 1000000 in
theorem lx_l22 : am_cl nw_P0 0 (.invokevirtual 22) = some (244, 3) := by decide +kernel
set_option maxRecDepth 1000000 in
theorem lx_l26 : am_cl nw_P0 0 (.invokevirtual 26) = some (245, 3) := by decide +kernel
set_option maxRecDepth 1000000 in
theorem lx_l30 : am_cl nw_P0 0 (.invokevirtual 30) = some (247, 3) := by decide +kernel
set_option maxRecDepth 1000000 in
theorem lx_l35 : am_cl nw_P0 0 (.invokevirtual 35) = some (250, 2) := by decide +kernel
set_option maxRecDepth 1000000 in
theorem lx_l40 : am_cl nw_P0 0 (.invokevirtual 40) = some (251, 1) := by decide +kernel
set_option maxRecDepth 1000000 in
theorem lx_l44 : am_cl nw_P0 0 (.invokevirtual 44) = some (252, 1) := by decide +kernel
set_option maxRecDepth 1000000 in
theorem lx_l49 : am_cl nw_P0 0 (.invokevirtual 49) = some (254, 2) := by decide +kernel
set_option maxRecDepth 1000000 in
theorem lx_l53 : am_cl nw_P0 0 (.invokevirtual 53) = some (258, 3) := by decide +kernel
set_option maxRecDepth 1000000 in
theorem lx_l58 : am_cl nw_P0 0 (.invokevirtual 58) = some (259, 3) := by decide +kernel
set_option maxRecDepth 1000000 in
theorem lx_l63 : am_cl nw_P0 0 (.invokevirtual 63) = some (255, 1) := by decide +kernel
set_option maxRecDepth 1000000 in
theorem lx_l67 : am_cl nw_P0 0 (.invokevirtual 67) = some (256, 3) := by decide +kernel
set_option maxRecDepth 1000000 in
theorem lx_l71 : am_cl nw_P0 0 (.invokevirtual 71) = some (257, 2) := by decide +kernel
set_option maxRecDepth 1000000 in
theorem lx_l75 : am_cl nw_P0 0 (.invokevirtual 75) = some (260, 3) := by decide +kernel
set_option maxRecDepth 1000000 in
theorem lx_l80 : am_cl nw_P0 0 (.invokevirtual 80) = some (261, 6) := by decide +kernel
set_option maxRecDepth 1000000 in
theorem lx_l84 : am_cl nw_P0 0 (.invokevirtual 84) = some (263, 1) := by decide +kernel
set_option maxRecDepth 1000000 in
theorem lx_l88 : am_cl nw_P0 0 (.invokevirtual 88) = some (264, 1) := by decide +kernel
set_option maxRecDepth 1000000 in
theorem lx_l92 : am_cl nw_P0 0 (.invokevirtual 92) = some (267, 1) := by decide +kernel
set_option maxRecDepth 1000000 in
theorem lx_l96 : am_cl nw_P0 0 (.invokevirtual 96) = some (242, 1) := by decide +kernel
set_option maxRecDepth 1000000 in
theorem lx_l100 : am_cl nw_P0 0 (.invokevirtual 100) = some (268, 2) := by decide +kernel
set_option maxRecDepth 1000000 in
theorem lx_l104 : am_cl nw_P0 0 (.invokevirtual 104) = some (269, 2) := by decide +kernel
set_option maxRecDepth 1000000 in
theorem lx_l108 : am_cl nw_P0 0 (.invokevirtual 108) = some (271, 3) := by decide +kernel
set_option maxRecDepth 1000000 in
theorem lx_l112 : am_cl nw_P0 0 (.invokevirtual 112) = some (272, 3) := by decide +kernel
set_option maxRecDepth 1000000 in
theorem lx_l116 : am_cl nw_P0 0 (.invokevirtual 116) = some (273, 3) := by decide +kernel
set_option maxRecDepth 1000000 in
theorem lx_l120 : am_cl nw_P0 0 (.invokevirtual 120) = some (274, 3) := by decide +kernel
set_option maxRecDepth 1000000 in
theorem lx_l124 : am_cl nw_P0 0 (.invokevirtual 124) = some (275, 3) := by decide +kernel
set_option maxRecDepth 1000000 in
theorem lx_l128 : am_cl nw_P0 0 (.invokevirtual 128) = some (276, 3) := by decide +kernel
set_option maxRecDepth 1000000 in
theorem lx_l132 : am_cl nw_P0 0 (.invokevirtual 132) = some (277, 2) := by decide +kernel
set_option maxRecDepth 1000000 in
theorem lx_l136 : am_cl nw_P0 0 (.invokevirtual 136) = some (278, 1) := by decide +kernel
set_option maxRecDepth 1000000 in
theorem lx_l140 : am_cl nw_P0 0 (.invokevirtual 140) = some (279, 2) := by decide +kernel
set_option maxRecDepth 1000000 in
theorem lx_l144 : am_cl nw_P0 0 (.invokevirtual 144) = some (280, 3) := by decide +kernel
set_option maxRecDepth 1000000 in
theorem lx_l148 : am_cl nw_P0 0 (.invokevirtual 148) = some (298, 2) := by decide +kernel
set_option maxRecDepth 1000000 in
theorem lx_l152 : am_cl nw_P0 0 (.invokevirtual 152) = some (294, 4) := by decide +kernel
set_option maxRecDepth 1000000 in
theorem lx_l156 : am_cl nw_P0 0 (.invokevirtual 156) = some (295, 2) := by decide +kernel
set_option maxRecDepth 1000000 in
theorem lx_l160 : am_cl nw_P0 0 (.invokevirtual 160) = some (296, 1) := by decide +kernel
set_option maxRecDepth 1000000 in
theorem lx_l164 : am_cl nw_P0 0 (.invokevirtual 164) = some (297, 1) := by decide +kernel
set_option maxRecDepth 1000000 in
theorem lx_l168 : am_cl nw_P0 0 (.invokevirtual 168) = some (300, 1) := by decide +kernel
set_option maxRecDepth 1000000 in
theorem lx_l172 : am_cl nw_P0 0 (.invokevirtual 172) = some (301, 2) := by decide +kernel
set_option maxRecDepth 1000000 in
theorem lx_l176 : am_cl nw_P0 0 (.invokevirtual 176) = some (304, 2) := by decide +kernel
set_option maxRecDepth 1000000 in
theorem lx_l180 : am_cl nw_P0 0 (.invokevirtual 180) = some (308, 4) := by decide +kernel
set_option maxRecDepth 1000000 in
theorem lx_l184 : am_cl nw_P0 0 (.invokevirtual 184) = some (309, 3) := by decide +kernel
set_option maxRecDepth 1000000 in
theorem lx_l188 : am_cl nw_P0 0 (.invokevirtual 188) = some (281, 1) := by decide +kernel
set_option maxRecDepth 1000000 in
theorem lx_l192 : am_cl nw_P0 0 (.invokevirtual 192) = some (282, 2) := by decide +kernel
set_option maxRecDepth 1000000 in
theorem lx_l196 : am_cl nw_P0 0 (.invokevirtual 196) = some (283, 2) := by decide +kernel
set_option maxRecDepth 1000000 in
theorem lx_l200 : am_cl nw_P0 0 (.invokevirtual 200) = some (284, 2) := by decide +kernel
set_option maxRecDepth 1000000 in
theorem lx_l204 : am_cl nw_P0 0 (.invokevirtual 204) = some (285, 2) := by decide +kernel
set_option maxRecDepth 1000000 in
theorem lx_l208 : am_cl nw_P0 0 (.invokevirtual 208) = some (286, 2) := by decide +kernel
set_option maxRecDepth 1000000 in
theorem lx_l212 : am_cl nw_P0 0 (.invokevirtual 212) = some (287, 1) := by decide +kernel
set_option maxRecDepth 1000000 in
theorem lx_l216 : am_cl nw_P0 0 (.invokevirtual 216) = some (253, 2) := by decide +kernel
set_option maxRecDepth 1000000 in
theorem lx_l220 : am_cl nw_P0 0 (.invokevirtual 220) = some (288, 2) := by decide +kernel
set_option maxRecDepth 1000000 in
theorem lx_l224 : am_cl nw_P0 0 (.invokevirtual 224) = some (289, 3) := by decide +kernel
set_option maxRecDepth 1000000 in
theorem lx_l228 : am_cl nw_P0 0 (.invokevirtual 228) = some (290, 3) := by decide +kernel
set_option maxRecDepth 1000000 in
theorem lx_l232 : am_cl nw_P0 0 (.invokevirtual 232) = some (291, 2) := by decide +kernel
set_option maxRecDepth 1000000 in
theorem lx_l237 : am_cl nw_P0 0 (.invokevirtual 237) = some (292, 1) := by decide +kernel
set_option maxRecDepth 1000000 in
theorem lx_l241 : am_cl nw_P0 0 (.invokevirtual 241) = some (293, 1) := by decide +kernel
set_option maxRecDepth 1000000 in
theorem lx_l245 : am_cl nw_P0 0 (.invokevirtual 245) = some (310, 3) := by decide +kernel
set_option maxRecDepth 1000000 in
theorem lx_l249 : am_cl nw_P0 0 (.invokevirtual 249) = some (311, 4) := by decide +kernel
set_option maxRecDepth 1000000 in
theorem lx_l253 : am_cl nw_P0 0 (.invokevirtual 253) = some (312, 2) := by decide +kernel
set_option maxRecDepth 1000000 in
theorem lx_l257 : am_cl nw_P0 0 (.invokevirtual 257) = some (313, 1) := by decide +kernel
set_option maxRecDepth 1000000 in
theorem lx_l261 : am_cl nw_P0 0 (.invokevirtual 261) = some (314, 2) := by decide +kernel
set_option maxRecDepth 1000000 in
theorem lx_l265 : am_cl nw_P0 0 (.invokevirtual 265) = some (316, 3) := by decide +kernel
set_option maxRecDepth 1000000 in
theorem lx_l269 : am_cl nw_P0 0 (.invokevirtual 269) = some (319, 3) := by decide +kernel
set_option maxRecDepth 1000000 in
theorem lx_l273 : am_cl nw_P0 0 (.invokevirtual 273) = some (317, 2) := by decide +kernel
set_option maxRecDepth 1000000 in
theorem lx_l277 : am_cl nw_P0 0 (.invokevirtual 277) = some (321, 2) := by decide +kernel
set_option maxRecDepth 1000000 in
theorem lx_l281 : am_cl nw_P0 0 (.invokevirtual 281) = some (322, 2) := by decide +kernel
set_option maxRecDepth 1000000 in
theorem lx_l285 : am_cl nw_P0 0 (.invokevirtual 285) = some (323, 1) := by decide +kernel
set_option maxRecDepth 1000000 in
theorem lx_l289 : am_cl nw_P0 0 (.invokevirtual 289) = some (324, 1) := by decide +kernel
set_option maxRecDepth 1000000 in
theorem lx_l293 : am_cl nw_P0 0 (.invokevirtual 293) = some (325, 1) := by decide +kernel

end
