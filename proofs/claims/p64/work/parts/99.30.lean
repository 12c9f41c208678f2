theorem x_po_A {L : Nat} {xs : Nat → Int32} {f : t2_F} {l : t2_L} {Q : Option fl_V → fl_M → Prop} {a b : Int32}  (k : ((if (t2_within_v a (0 : Int32) (1 : Int32)).toInt = 0 then (0 : Int32) else (if (t2_within_v b (1 : Int32) (60 : Int32)).toInt = 0 then (0 : Int32) else (1 : Int32))).toInt = 0) → Q (some (.inl (-1 : Int32))) (f, l)) (k1 : (¬ ((if (t2_within_v a (0 : Int32) (1 : Int32)).toInt = 0 then (0 : Int32) else (if (t2_within_v b (1 : Int32) (60 : Int32)).toInt = 0 then (0 : Int32) else (1 : Int32))).toInt = 0)) → ((f 1 7).toInt = (2 : Int32).toInt) → ((9999 : Int32).toInt < ((f 1 6) + b).toInt) → Q (some (.inl (-1 : Int32))) (f, l)) (k2 : (¬ ((if (t2_within_v a (0 : Int32) (1 : Int32)).toInt = 0 then (0 : Int32) else (if (t2_within_v b (1 : Int32) (60 : Int32)).toInt = 0 then (0 : Int32) else (1 : Int32))).toInt = 0)) → ((f 1 7).toInt = (2 : Int32).toInt) → (¬ ((9999 : Int32).toInt < ((f 1 6) + b).toInt)) → fl_Tq (pw_P L xs) 164 73 [some (.inr (.inr (.inl (0, 0)))), some (.inl a), some (.inl b), some (.inl (if (t2_within_v a (0 : Int32) (1 : Int32)).toInt = 0 then (0 : Int32) else (if (t2_within_v b (1 : Int32) (60 : Int32)).toInt = 0 then (0 : Int32) else (1 : Int32)))), some (.inl (if a.toInt = 0 then (1 : Int32) else (-1 : Int32))), none] [.inl a, .inr (.inr (.inl (1, 1)))] (f, l) Q) (k3 : (¬ ((if (t2_within_v a (0 : Int32) (1 : Int32)).toInt = 0 then (0 : Int32) else (if (t2_within_v b (1 : Int32) (60 : Int32)).toInt = 0 then (0 : Int32) else (1 : Int32))).toInt = 0)) → (¬ ((f 1 7).toInt = (2 : Int32).toInt)) → Q (some (.inl (-1 : Int32))) (f, l)) : fl_Tq (pw_P L xs) 164 0 [some (.inr (.inr (.inl (0, 0)))), some (.inl a), some (.inl b), none, none, none] [] (f, l) Q := by
  refine fl_Tq.stp (pc' := 1) (lv' := [some (.inr (.inr (.inl (0, 0)))), some (.inl a), some (.inl b), none, none, none]) (st' := [.inl a]) (m' := (f, l)) rfl rfl (fl_bo rfl) rfl ?_
  refine fl_Tq.cI (c := (0 : Int32)) rfl (by decide +kernel) (fl_bo rfl) ?_
  refine fl_Tq.cI (c := (1 : Int32)) rfl (by decide +kernel) (fl_bo rfl) ?_
  refine fl_Tq.cal rfl rfl (fl_bo rfl) rfl ?_
  refine t2_within_q  ?_
  show fl_Tq _ 164 6 [some (.inr (.inr (.inl (0, 0)))), some (.inl a), some (.inl b), none, none, none] [.inl (t2_within_v a (0 : Int32) (1 : Int32))] (f, l) _
  have hj130 : fl_Tq (pw_P L xs) 164 24 [some (.inr (.inr (.inl (0, 0)))), some (.inl a), some (.inl b), none, none, none] [.inl (if (t2_within_v a (0 : Int32) (1 : Int32)).toInt = 0 then (0 : Int32) else (if (t2_within_v b (1 : Int32) (60 : Int32)).toInt = 0 then (0 : Int32) else (1 : Int32)))] (f, l) Q → fl_Tq (pw_P L xs) 164 6 [some (.inr (.inr (.inl (0, 0)))), some (.inl a), some (.inl b), none, none, none] [.inl (t2_within_v a (0 : Int32) (1 : Int32))] (f, l) Q := by
    intro hJ
    by_cases h1 : (t2_within_v a (0 : Int32) (1 : Int32)).toInt = 0
    · refine fl_Tq.zt rfl (fl_bo rfl) (c1_eq_t h1) rfl ?_
      refine fl_Tq.cI (c := (0 : Int32)) rfl (by decide +kernel) (fl_bo rfl) ?_
      have e0 : (if (t2_within_v a (0 : Int32) (1 : Int32)).toInt = 0 then (0 : Int32) else (if (t2_within_v b (1 : Int32) (60 : Int32)).toInt = 0 then (0 : Int32) else (1 : Int32))) = (0 : Int32) := by simp only [if_pos h1]
      rw [e0] at hJ
      exact hJ
    · refine fl_Tq.zf rfl (fl_bo rfl) (c1_eq_f h1) rfl ?_
      refine fl_Tq.stp (pc' := 10) (lv' := [some (.inr (.inr (.inl (0, 0)))), some (.inl a), some (.inl b), none, none, none]) (st' := [.inl b]) (m' := (f, l)) rfl rfl (fl_bo rfl) rfl ?_
      refine fl_Tq.cI (c := (1 : Int32)) rfl (by decide +kernel) (fl_bo rfl) ?_
      refine fl_Tq.cB (c := (60 : Int32)) rfl (by decide +kernel) (fl_bo rfl) ?_
      refine fl_Tq.cal rfl rfl (fl_bo rfl) rfl ?_
      refine t2_within_q  ?_
      show fl_Tq _ 164 16 [some (.inr (.inr (.inl (0, 0)))), some (.inl a), some (.inl b), none, none, none] [.inl (t2_within_v b (1 : Int32) (60 : Int32))] (f, l) _
      by_cases h2 : (t2_within_v b (1 : Int32) (60 : Int32)).toInt = 0
      · refine fl_Tq.zt rfl (fl_bo rfl) (c1_eq_t h2) rfl ?_
        refine fl_Tq.cI (c := (0 : Int32)) rfl (by decide +kernel) (fl_bo rfl) ?_
        have e0 : (if (t2_within_v a (0 : Int32) (1 : Int32)).toInt = 0 then (0 : Int32) else (if (t2_within_v b (1 : Int32) (60 : Int32)).toInt = 0 then (0 : Int32) else (1 : Int32))) = (0 : Int32) := by simp only [if_neg h1, if_pos h2]
        rw [e0] at hJ
        exact hJ
      · refine fl_Tq.zf rfl (fl_bo rfl) (c1_eq_f h2) rfl ?_
        refine fl_Tq.cI (c := (1 : Int32)) rfl (by decide +kernel) (fl_bo rfl) ?_
        refine fl_Tq.stp (pc' := 24) (lv' := [some (.inr (.inr (.inl (0, 0)))), some (.inl a), some (.inl b), none, none, none]) (st' := [.inl (1 : Int32)]) (m' := (f, l)) rfl rfl (fl_bo rfl) rfl ?_
        have e0 : (if (t2_within_v a (0 : Int32) (1 : Int32)).toInt = 0 then (0 : Int32) else (if (t2_within_v b (1 : Int32) (60 : Int32)).toInt = 0 then (0 : Int32) else (1 : Int32))) = (1 : Int32) := by simp only [if_neg h1, if_neg h2]
        rw [e0] at hJ
        exact hJ
  refine hj130 ?_
  show fl_Tq _ 164 24 [some (.inr (.inr (.inl (0, 0)))), some (.inl a), some (.inl b), none, none, none] [.inl (if (t2_within_v a (0 : Int32) (1 : Int32)).toInt = 0 then (0 : Int32) else (if (t2_within_v b (1 : Int32) (60 : Int32)).toInt = 0 then (0 : Int32) else (1 : Int32)))] (f, l) _
  refine fl_Tq.stp (pc' := 25) (lv' := [some (.inr (.inr (.inl (0, 0)))), some (.inl a), some (.inl b), some (.inl (if (t2_within_v a (0 : Int32) (1 : Int32)).toInt = 0 then (0 : Int32) else (if (t2_within_v b (1 : Int32) (60 : Int32)).toInt = 0 then (0 : Int32) else (1 : Int32)))), none, none]) (st' := []) (m' := (f, l)) rfl rfl (fl_bo rfl) rfl ?_
  refine fl_Tq.stp (pc' := 26) (lv' := [some (.inr (.inr (.inl (0, 0)))), some (.inl a), some (.inl b), some (.inl (if (t2_within_v a (0 : Int32) (1 : Int32)).toInt = 0 then (0 : Int32) else (if (t2_within_v b (1 : Int32) (60 : Int32)).toInt = 0 then (0 : Int32) else (1 : Int32)))), none, none]) (st' := [.inl (if (t2_within_v a (0 : Int32) (1 : Int32)).toInt = 0 then (0 : Int32) else (if (t2_within_v b (1 : Int32) (60 : Int32)).toInt = 0 then (0 : Int32) else (1 : Int32)))]) (m' := (f, l)) rfl rfl (fl_bo rfl) rfl ?_
  by_cases h3 : (if (t2_within_v a (0 : Int32) (1 : Int32)).toInt = 0 then (0 : Int32) else (if (t2_within_v b (1 : Int32) (60 : Int32)).toInt = 0 then (0 : Int32) else (1 : Int32))).toInt = 0
  · refine fl_Tq.zt rfl (fl_bo rfl) (c1_eq_t h3) rfl ?_
    refine fl_Tq.cI (c := (-1 : Int32)) rfl (by decide +kernel) (fl_bo rfl) ?_
    exact fl_Tq.ret rfl rfl rfl (k h3)
  · refine fl_Tq.zf rfl (fl_bo rfl) (c1_eq_f h3) rfl ?_
    refine fl_Tq.stp (pc' := 30) (lv' := [some (.inr (.inr (.inl (0, 0)))), some (.inl a), some (.inl b), some (.inl (if (t2_within_v a (0 : Int32) (1 : Int32)).toInt = 0 then (0 : Int32) else (if (t2_within_v b (1 : Int32) (60 : Int32)).toInt = 0 then (0 : Int32) else (1 : Int32)))), none, none]) (st' := [.inr (.inr (.inl (0, 0)))]) (m' := (f, l)) rfl rfl (fl_bo rfl) rfl ?_
    refine fl_Tq.stp (pc' := 33) (lv' := [some (.inr (.inr (.inl (0, 0)))), some (.inl a), some (.inl b), some (.inl (if (t2_within_v a (0 : Int32) (1 : Int32)).toInt = 0 then (0 : Int32) else (if (t2_within_v b (1 : Int32) (60 : Int32)).toInt = 0 then (0 : Int32) else (1 : Int32)))), none, none]) (st' := [.inr (.inr (.inl (1, 1)))]) (m' := (f, l)) rfl rfl (fl_bo rfl) rfl ?_
    refine fl_Tq.gfV (k := 7) (v := f 1 7) rfl (fl_bo rfl) rfl rfl ?_
    refine fl_Tq.cI (c := (2 : Int32)) rfl (by decide +kernel) (fl_bo rfl) ?_
    by_cases h4 : (f 1 7).toInt = (2 : Int32).toInt
    · refine fl_Tq.jf rfl (fl_bo rfl) (c2_ne_f h4) rfl ?_
      refine fl_Tq.stp (pc' := 41) (lv' := [some (.inr (.inr (.inl (0, 0)))), some (.inl a), some (.inl b), some (.inl (if (t2_within_v a (0 : Int32) (1 : Int32)).toInt = 0 then (0 : Int32) else (if (t2_within_v b (1 : Int32) (60 : Int32)).toInt = 0 then (0 : Int32) else (1 : Int32)))), none, none]) (st' := [.inr (.inr (.inl (0, 0)))]) (m' := (f, l)) rfl rfl (fl_bo rfl) rfl ?_
      refine fl_Tq.stp (pc' := 44) (lv' := [some (.inr (.inr (.inl (0, 0)))), some (.inl a), some (.inl b), some (.inl (if (t2_within_v a (0 : Int32) (1 : Int32)).toInt = 0 then (0 : Int32) else (if (t2_within_v b (1 : Int32) (60 : Int32)).toInt = 0 then (0 : Int32) else (1 : Int32)))), none, none]) (st' := [.inr (.inr (.inl (1, 1)))]) (m' := (f, l)) rfl rfl (fl_bo rfl) rfl ?_
      refine fl_Tq.gfV (k := 6) (v := f 1 6) rfl (fl_bo rfl) rfl rfl ?_
      refine fl_Tq.stp (pc' := 48) (lv' := [some (.inr (.inr (.inl (0, 0)))), some (.inl a), some (.inl b), some (.inl (if (t2_within_v a (0 : Int32) (1 : Int32)).toInt = 0 then (0 : Int32) else (if (t2_within_v b (1 : Int32) (60 : Int32)).toInt = 0 then (0 : Int32) else (1 : Int32)))), none, none]) (st' := [.inl b, .inl (f 1 6)]) (m' := (f, l)) rfl rfl (fl_bo rfl) rfl ?_
      refine fl_Tq.stp (pc' := 49) (lv' := [some (.inr (.inr (.inl (0, 0)))), some (.inl a), some (.inl b), some (.inl (if (t2_within_v a (0 : Int32) (1 : Int32)).toInt = 0 then (0 : Int32) else (if (t2_within_v b (1 : Int32) (60 : Int32)).toInt = 0 then (0 : Int32) else (1 : Int32)))), none, none]) (st' := [.inl ((f 1 6) + b)]) (m' := (f, l)) rfl rfl (fl_bo rfl) rfl ?_
      refine fl_Tq.cS (c := (9999 : Int32)) rfl (by decide +kernel) (fl_bo rfl) ?_
      by_cases h5 : (9999 : Int32).toInt < ((f 1 6) + b).toInt
      · refine fl_Tq.jf rfl (fl_bo rfl) (c2_le_f h5) rfl ?_
        refine fl_Tq.cI (c := (-1 : Int32)) rfl (by decide +kernel) (fl_bo rfl) ?_
        exact fl_Tq.ret rfl rfl rfl (k1 h3 h4 h5)
      · refine fl_Tq.jt rfl (fl_bo rfl) (c2_le_t h5) rfl ?_
        refine fl_Tq.stp (pc' := 58) (lv' := [some (.inr (.inr (.inl (0, 0)))), some (.inl a), some (.inl b), some (.inl (if (t2_within_v a (0 : Int32) (1 : Int32)).toInt = 0 then (0 : Int32) else (if (t2_within_v b (1 : Int32) (60 : Int32)).toInt = 0 then (0 : Int32) else (1 : Int32)))), none, none]) (st' := [.inl a]) (m' := (f, l)) rfl rfl (fl_bo rfl) rfl ?_
        have hj131 : fl_Tq (pw_P L xs) 164 66 [some (.inr (.inr (.inl (0, 0)))), some (.inl a), some (.inl b), some (.inl (if (t2_within_v a (0 : Int32) (1 : Int32)).toInt = 0 then (0 : Int32) else (if (t2_within_v b (1 : Int32) (60 : Int32)).toInt = 0 then (0 : Int32) else (1 : Int32)))), none, none] [.inl (if a.toInt = 0 then (1 : Int32) else (-1 : Int32))] (f, l) Q → fl_Tq (pw_P L xs) 164 58 [some (.inr (.inr (.inl (0, 0)))), some (.inl a), some (.inl b), some (.inl (if (t2_within_v a (0 : Int32) (1 : Int32)).toInt = 0 then (0 : Int32) else (if (t2_within_v b (1 : Int32) (60 : Int32)).toInt = 0 then (0 : Int32) else (1 : Int32)))), none, none] [.inl a] (f, l) Q := by
          intro hJ
          by_cases h6 : a.toInt = 0
          · refine fl_Tq.zf rfl (fl_bo rfl) (c1_ne_f h6) rfl ?_
            refine fl_Tq.cI (c := (1 : Int32)) rfl (by decide +kernel) (fl_bo rfl) ?_
            refine fl_Tq.stp (pc' := 66) (lv' := [some (.inr (.inr (.inl (0, 0)))), some (.inl a), some (.inl b), some (.inl (if (t2_within_v a (0 : Int32) (1 : Int32)).toInt = 0 then (0 : Int32) else (if (t2_within_v b (1 : Int32) (60 : Int32)).toInt = 0 then (0 : Int32) else (1 : Int32)))), none, none]) (st' := [.inl (1 : Int32)]) (m' := (f, l)) rfl rfl (fl_bo rfl) rfl ?_
            have e0 : (if a.toInt = 0 then (1 : Int32) else (-1 : Int32)) = (1 : Int32) := by simp only [if_pos h6]
            rw [e0] at hJ
            exact hJ
          · refine fl_Tq.zt rfl (fl_bo rfl) (c1_ne_t h6) rfl ?_
            refine fl_Tq.cI (c := (-1 : Int32)) rfl (by decide +kernel) (fl_bo rfl) ?_
            have e0 : (if a.toInt = 0 then (1 : Int32) else (-1 : Int32)) = (-1 : Int32) := by simp only [if_neg h6]
            rw [e0] at hJ
            exact hJ
        refine hj131 ?_
        show fl_Tq _ 164 66 [some (.inr (.inr (.inl (0, 0)))), some (.inl a), some (.inl b), some (.inl (if (t2_within_v a (0 : Int32) (1 : Int32)).toInt = 0 then (0 : Int32) else (if (t2_within_v b (1 : Int32) (60 : Int32)).toInt = 0 then (0 : Int32) else (1 : Int32)))), none, none] [.inl (if a.toInt = 0 then (1 : Int32) else (-1 : Int32))] (f, l) _
        refine fl_Tq.stp (pc' := 68) (lv' := [some (.inr (.inr (.inl (0, 0)))), some (.inl a), some (.inl b), some (.inl (if (t2_within_v a (0 : Int32) (1 : Int32)).toInt = 0 then (0 : Int32) else (if (t2_within_v b (1 : Int32) (60 : Int32)).toInt = 0 then (0 : Int32) else (1 : Int32)))), some (.inl (if a.toInt = 0 then (1 : Int32) else (-1 : Int32))), none]) (st' := []) (m' := (f, l)) rfl rfl (fl_bo rfl) rfl ?_
        refine fl_Tq.stp (pc' := 69) (lv' := [some (.inr (.inr (.inl (0, 0)))), some (.inl a), some (.inl b), some (.inl (if (t2_within_v a (0 : Int32) (1 : Int32)).toInt = 0 then (0 : Int32) else (if (t2_within_v b (1 : Int32) (60 : Int32)).toInt = 0 then (0 : Int32) else (1 : Int32)))), some (.inl (if a.toInt = 0 then (1 : Int32) else (-1 : Int32))), none]) (st' := [.inr (.inr (.inl (0, 0)))]) (m' := (f, l)) rfl rfl (fl_bo rfl) rfl ?_
        refine fl_Tq.stp (pc' := 72) (lv' := [some (.inr (.inr (.inl (0, 0)))), some (.inl a), some (.inl b), some (.inl (if (t2_within_v a (0 : Int32) (1 : Int32)).toInt = 0 then (0 : Int32) else (if (t2_within_v b (1 : Int32) (60 : Int32)).toInt = 0 then (0 : Int32) else (1 : Int32)))), some (.inl (if a.toInt = 0 then (1 : Int32) else (-1 : Int32))), none]) (st' := [.inr (.inr (.inl (1, 1)))]) (m' := (f, l)) rfl rfl (fl_bo rfl) rfl ?_
        refine fl_Tq.stp (pc' := 73) (lv' := [some (.inr (.inr (.inl (0, 0)))), some (.inl a), some (.inl b), some (.inl (if (t2_within_v a (0 : Int32) (1 : Int32)).toInt = 0 then (0 : Int32) else (if (t2_within_v b (1 : Int32) (60 : Int32)).toInt = 0 then (0 : Int32) else (1 : Int32)))), some (.inl (if a.toInt = 0 then (1 : Int32) else (-1 : Int32))), none]) (st' := [.inl a, .inr (.inr (.inl (1, 1)))]) (m' := (f, l)) rfl rfl (fl_bo rfl) rfl ?_
        exact k2 h3 h4 h5
    · refine fl_Tq.jt rfl (fl_bo rfl) (c2_ne_t h4) rfl ?_
      refine fl_Tq.cI (c := (-1 : Int32)) rfl (by decide +kernel) (fl_bo rfl) ?_
      exact fl_Tq.ret rfl rfl rfl (k3 h3 h4)
theorem x_po_B {L : Nat} {xs : Nat → Int32} {f : t2_F} {l : t2_L} {Q : Option fl_V → fl_M → Prop} {a b c d z : Int32}  (k : fl_Tq (pw_P L xs) 164 84 [some (.inr (.inr (.inl (0, 0)))), some (.inl a), some (.inl b), some (.inl c), some (.inl d), some (.inl ((z / (100 : Int32)) * (100 : Int32)))] [] (f, l) Q) : fl_Tq (pw_P L xs) 164 76 [some (.inr (.inr (.inl (0, 0)))), some (.inl a), some (.inl b), some (.inl c), some (.inl d), none] [.inl z] (f, l) Q := by
  refine fl_Tq.cB (c := (100 : Int32)) rfl (by decide +kernel) (fl_bo rfl) ?_
  refine fl_Tq.dv rfl (fl_bo rfl) (by decide +kernel) ?_
  refine fl_Tq.cB (c := (100 : Int32)) rfl (by decide +kernel) (fl_bo rfl) ?_
  refine fl_Tq.stp (pc' := 82) (lv' := [some (.inr (.inr (.inl (0, 0)))), some (.inl a), some (.inl b), some (.inl c), some (.inl d), none]) (st' := [.inl ((z / (100 : Int32)) * (100 : Int32))]) (m' := (f, l)) rfl rfl (fl_bo rfl) rfl ?_
  refine fl_Tq.stp (pc' := 84) (lv' := [some (.inr (.inr (.inl (0, 0)))), some (.inl a), some (.inl b), some (.inl c), some (.inl d), some (.inl ((z / (100 : Int32)) * (100 : Int32)))]) (st' := []) (m' := (f, l)) rfl rfl (fl_bo rfl) rfl ?_
  exact k
theorem x_po_C {L : Nat} {xs : Nat → Int32} {f : t2_F} {l : t2_L} {Q : Option fl_V → fl_M → Prop} {a b c d e : Int32}  (k : (0 < e.toInt) → fl_Tq (pw_P L xs) 164 96 [some (.inr (.inr (.inl (0, 0)))), some (.inl a), some (.inl b), some (.inl c), some (.inl d), some (.inl e)] [.inl b, .inl (d * e), .inr (.inr (.inl (0, 0)))] (f, l) Q) (k1 : (¬ (0 < e.toInt)) → Q (some (.inl (0 : Int32))) (f, l)) : fl_Tq (pw_P L xs) 164 84 [some (.inr (.inr (.inl (0, 0)))), some (.inl a), some (.inl b), some (.inl c), some (.inl d), some (.inl e)] [] (f, l) Q := by
  refine fl_Tq.stp (pc' := 86) (lv' := [some (.inr (.inr (.inl (0, 0)))), some (.inl a), some (.inl b), some (.inl c), some (.inl d), some (.inl e)]) (st' := [.inl e]) (m' := (f, l)) rfl rfl (fl_bo rfl) rfl ?_
  by_cases h1 : 0 < e.toInt
  · refine fl_Tq.zf rfl (fl_bo rfl) (c1_le_f h1) rfl ?_
    refine fl_Tq.stp (pc' := 90) (lv' := [some (.inr (.inr (.inl (0, 0)))), some (.inl a), some (.inl b), some (.inl c), some (.inl d), some (.inl e)]) (st' := [.inr (.inr (.inl (0, 0)))]) (m' := (f, l)) rfl rfl (fl_bo rfl) rfl ?_
    refine fl_Tq.stp (pc' := 92) (lv' := [some (.inr (.inr (.inl (0, 0)))), some (.inl a), some (.inl b), some (.inl c), some (.inl d), some (.inl e)]) (st' := [.inl d, .inr (.inr (.inl (0, 0)))]) (m' := (f, l)) rfl rfl (fl_bo rfl) rfl ?_
    refine fl_Tq.stp (pc' := 94) (lv' := [some (.inr (.inr (.inl (0, 0)))), some (.inl a), some (.inl b), some (.inl c), some (.inl d), some (.inl e)]) (st' := [.inl e, .inl d, .inr (.inr (.inl (0, 0)))]) (m' := (f, l)) rfl rfl (fl_bo rfl) rfl ?_
    refine fl_Tq.stp (pc' := 95) (lv' := [some (.inr (.inr (.inl (0, 0)))), some (.inl a), some (.inl b), some (.inl c), some (.inl d), some (.inl e)]) (st' := [.inl (d * e), .inr (.inr (.inl (0, 0)))]) (m' := (f, l)) rfl rfl (fl_bo rfl) rfl ?_
    refine fl_Tq.stp (pc' := 96) (lv' := [some (.inr (.inr (.inl (0, 0)))), some (.inl a), some (.inl b), some (.inl c), some (.inl d), some (.inl e)]) (st' := [.inl b, .inl (d * e), .inr (.inr (.inl (0, 0)))]) (m' := (f, l)) rfl rfl (fl_bo rfl) rfl ?_
    exact k h1
  · refine fl_Tq.zt rfl (fl_bo rfl) (c1_le_t h1) rfl ?_
    refine fl_Tq.cI (c := (0 : Int32)) rfl (by decide +kernel) (fl_bo rfl) ?_
    exact fl_Tq.ret rfl rfl rfl (k1 h1)
theorem x_po_D {L : Nat} {xs : Nat → Int32} {f : t2_F} {l : t2_L} {Q : Option fl_V → fl_M → Prop} {a b c d e z : Int32}  (k : (z.toInt = 0) → fl_Tq (pw_P L xs) 164 84 [some (.inr (.inr (.inl (0, 0)))), some (.inl a), some (.inl b), some (.inl c), some (.inl d), some (.inl (e + (-100 : Int32)))] [] (f, l) Q) (k1 : (¬ (z.toInt = 0)) → Q (some (.inl (d * e))) (f, l)) : fl_Tq (pw_P L xs) 164 99 [some (.inr (.inr (.inl (0, 0)))), some (.inl a), some (.inl b), some (.inl c), some (.inl d), some (.inl e)] [.inl z] (f, l) Q := by
  by_cases h1 : z.toInt = 0
  · refine fl_Tq.zt rfl (fl_bo rfl) (c1_eq_t h1) rfl ?_
    refine fl_Tq.stp (pc' := 111) (lv' := [some (.inr (.inr (.inl (0, 0)))), some (.inl a), some (.inl b), some (.inl c), some (.inl d), some (.inl (e + (-100 : Int32)))]) (st' := []) (m' := (f, l)) rfl rfl (fl_bo rfl) rfl ?_
    refine fl_Tq.stp (pc' := 84) (lv' := [some (.inr (.inr (.inl (0, 0)))), some (.inl a), some (.inl b), some (.inl c), some (.inl d), some (.inl (e + (-100 : Int32)))]) (st' := []) (m' := (f, l)) rfl rfl (fl_bo rfl) rfl ?_
    exact k h1
  · refine fl_Tq.zf rfl (fl_bo rfl) (c1_eq_f h1) rfl ?_
    refine fl_Tq.stp (pc' := 104) (lv' := [some (.inr (.inr (.inl (0, 0)))), some (.inl a), some (.inl b), some (.inl c), some (.inl d), some (.inl e)]) (st' := [.inl d]) (m' := (f, l)) rfl rfl (fl_bo rfl) rfl ?_
    refine fl_Tq.stp (pc' := 106) (lv' := [some (.inr (.inr (.inl (0, 0)))), some (.inl a), some (.inl b), some (.inl c), some (.inl d), some (.inl e)]) (st' := [.inl e, .inl d]) (m' := (f, l)) rfl rfl (fl_bo rfl) rfl ?_
    refine fl_Tq.stp (pc' := 107) (lv' := [some (.inr (.inr (.inl (0, 0)))), some (.inl a), some (.inl b), some (.inl c), some (.inl d), some (.inl e)]) (st' := [.inl (d * e)]) (m' := (f, l)) rfl rfl (fl_bo rfl) rfl ?_
    exact fl_Tq.ret rfl rfl rfl (k1 h1)
theorem x_be_A {L : Nat} {xs : Nat → Int32} {f : t2_F} {l : t2_L} {Q : Option fl_V → fl_M → Prop} {a b : Int32}  (k : fl_Tq (pw_P L xs) 170 8 [some (.inr (.inr (.inl (0, 0)))), some (.inl a), some (.inl b), none] [.inr (.inr (.inl (1, 1))), .inr (.inr (.inl (49, 181)))] (f, l) Q) : fl_Tq (pw_P L xs) 170 0 [some (.inr (.inr (.inl (0, 0)))), some (.inl a), some (.inl b), none] [] (f, l) Q := by
  refine fl_Tq.stp (pc' := 1) (lv' := [some (.inr (.inr (.inl (0, 0)))), some (.inl a), some (.inl b), none]) (st' := [.inr (.inr (.inl (0, 0)))]) (m' := (f, l)) rfl rfl (fl_bo rfl) rfl ?_
  refine fl_Tq.stp (pc' := 4) (lv' := [some (.inr (.inr (.inl (0, 0)))), some (.inl a), some (.inl b), none]) (st' := [.inr (.inr (.inl (49, 181)))]) (m' := (f, l)) rfl rfl (fl_bo rfl) rfl ?_
  refine fl_Tq.stp (pc' := 5) (lv' := [some (.inr (.inr (.inl (0, 0)))), some (.inl a), some (.inl b), none]) (st' := [.inr (.inr (.inl (0, 0))), .inr (.inr (.inl (49, 181)))]) (m' := (f, l)) rfl rfl (fl_bo rfl) rfl ?_
  refine fl_Tq.stp (pc' := 8) (lv' := [some (.inr (.inr (.inl (0, 0)))), some (.inl a), some (.inl b), none]) (st' := [.inr (.inr (.inl (1, 1))), .inr (.inr (.inl (49, 181)))]) (m' := (f, l)) rfl rfl (fl_bo rfl) rfl ?_
  exact k
theorem x_be_B {L : Nat} {xs : Nat → Int32} {f : t2_F} {l : t2_L} {Q : Option fl_V → fl_M → Prop} {a b : Int32}  (k : fl_Tq (pw_P L xs) 170 52 [some (.inr (.inr (.inl (0, 0)))), some (.inl a), some (.inl b), some (.inl (0 : Int32))] [] (fl_row (fl_row f 183 (upd (f 183) 8 (0 : Int32))) 184 (upd (upd (f 184) 23 (0 : Int32)) 20 a), l) Q) : fl_Tq (pw_P L xs) 170 11 [some (.inr (.inr (.inl (0, 0)))), some (.inl a), some (.inl b), none] [] (f, l) Q := by
  refine fl_Tq.stp (pc' := 12) (lv' := [some (.inr (.inr (.inl (0, 0)))), some (.inl a), some (.inl b), none]) (st' := [.inr (.inr (.inl (0, 0)))]) (m' := (f, l)) rfl rfl (fl_bo rfl) rfl ?_
  refine fl_Tq.stp (pc' := 15) (lv' := [some (.inr (.inr (.inl (0, 0)))), some (.inl a), some (.inl b), none]) (st' := [.inr (.inr (.inl (49, 181)))]) (m' := (f, l)) rfl rfl (fl_bo rfl) rfl ?_
  refine fl_Tq.stp (pc' := 18) (lv' := [some (.inr (.inr (.inl (0, 0)))), some (.inl a), some (.inl b), none]) (st' := [.inr (.inr (.inl (51, 183)))]) (m' := (f, l)) rfl rfl (fl_bo rfl) rfl ?_
  refine fl_Tq.cI (c := (0 : Int32)) rfl (by decide +kernel) (fl_bo rfl) ?_
  refine fl_Tq.pfV (k := 8) (m' := (fl_row f 183 (upd (f 183) 8 (0 : Int32)), l)) rfl (fl_bo rfl) rfl (t2_upn rfl) ?_
  refine fl_Tq.stp (pc' := 23) (lv' := [some (.inr (.inr (.inl (0, 0)))), some (.inl a), some (.inl b), none]) (st' := [.inr (.inr (.inl (0, 0)))]) (m' := (fl_row f 183 (upd (f 183) 8 (0 : Int32)), l)) rfl rfl (fl_bo rfl) rfl ?_
  refine fl_Tq.stp (pc' := 26) (lv' := [some (.inr (.inr (.inl (0, 0)))), some (.inl a), some (.inl b), none]) (st' := [.inr (.inr (.inl (49, 181)))]) (m' := (fl_row f 183 (upd (f 183) 8 (0 : Int32)), l)) rfl rfl (fl_bo rfl) rfl ?_
  refine fl_Tq.stp (pc' := 29) (lv' := [some (.inr (.inr (.inl (0, 0)))), some (.inl a), some (.inl b), none]) (st' := [.inr (.inr (.inl (51, 183)))]) (m' := (fl_row f 183 (upd (f 183) 8 (0 : Int32)), l)) rfl rfl (fl_bo rfl) rfl ?_
  refine fl_Tq.stp (pc' := 32) (lv' := [some (.inr (.inr (.inl (0, 0)))), some (.inl a), some (.inl b), none]) (st' := [.inr (.inr (.inl (52, 184)))]) (m' := (fl_row f 183 (upd (f 183) 8 (0 : Int32)), l)) rfl rfl (fl_bo rfl) rfl ?_
  refine fl_Tq.cB (c := (23 : Int32)) rfl (by decide +kernel) (fl_bo rfl) ?_
  refine fl_Tq.cI (c := (0 : Int32)) rfl (by decide +kernel) (fl_bo rfl) ?_
  refine fl_Tq.svV (p := 184) (τ := 52) (n := 30) (z := (0, 0, 0)) (k := 23) (m' := (fl_row (fl_row f 183 (upd (f 183) 8 (0 : Int32))) 184 (upd (f 184) 23 (0 : Int32)), l)) rfl (fl_bo rfl) rfl (by decide +kernel) (by decide) (t2_upn (by rw [fl_row_ne (by decide : 184 ≠ 183)])) ?_
  refine fl_Tq.stp (pc' := 37) (lv' := [some (.inr (.inr (.inl (0, 0)))), some (.inl a), some (.inl b), none]) (st' := [.inr (.inr (.inl (0, 0)))]) (m' := (fl_row (fl_row f 183 (upd (f 183) 8 (0 : Int32))) 184 (upd (f 184) 23 (0 : Int32)), l)) rfl rfl (fl_bo rfl) rfl ?_
  refine fl_Tq.stp (pc' := 40) (lv' := [some (.inr (.inr (.inl (0, 0)))), some (.inl a), some (.inl b), none]) (st' := [.inr (.inr (.inl (49, 181)))]) (m' := (fl_row (fl_row f 183 (upd (f 183) 8 (0 : Int32))) 184 (upd (f 184) 23 (0 : Int32)), l)) rfl rfl (fl_bo rfl) rfl ?_
  refine fl_Tq.stp (pc' := 43) (lv' := [some (.inr (.inr (.inl (0, 0)))), some (.inl a), some (.inl b), none]) (st' := [.inr (.inr (.inl (51, 183)))]) (m' := (fl_row (fl_row f 183 (upd (f 183) 8 (0 : Int32))) 184 (upd (f 184) 23 (0 : Int32)), l)) rfl rfl (fl_bo rfl) rfl ?_
  refine fl_Tq.stp (pc' := 46) (lv' := [some (.inr (.inr (.inl (0, 0)))), some (.inl a), some (.inl b), none]) (st' := [.inr (.inr (.inl (52, 184)))]) (m' := (fl_row (fl_row f 183 (upd (f 183) 8 (0 : Int32))) 184 (upd (f 184) 23 (0 : Int32)), l)) rfl rfl (fl_bo rfl) rfl ?_
  refine fl_Tq.cB (c := (20 : Int32)) rfl (by decide +kernel) (fl_bo rfl) ?_
  refine fl_Tq.stp (pc' := 49) (lv' := [some (.inr (.inr (.inl (0, 0)))), some (.inl a), some (.inl b), none]) (st' := [.inl a, .inl (20 : Int32), .inr (.inr (.inl (52, 184)))]) (m' := (fl_row (fl_row f 183 (upd (f 183) 8 (0 : Int32))) 184 (upd (f 184) 23 (0 : Int32)), l)) rfl rfl (fl_bo rfl) rfl ?_
  refine fl_Tq.svV (p := 184) (τ := 52) (n := 30) (z := (0, 0, 0)) (k := 20) (m' := (fl_row (fl_row f 183 (upd (f 183) 8 (0 : Int32))) 184 (upd (upd (f 184) 23 (0 : Int32)) 20 a), l)) rfl (fl_bo rfl) rfl (by decide +kernel) (by decide) (t2_upr) ?_
  refine fl_Tq.cI (c := (0 : Int32)) rfl (by decide +kernel) (fl_bo rfl) ?_
  refine fl_Tq.stp (pc' := 52) (lv' := [some (.inr (.inr (.inl (0, 0)))), some (.inl a), some (.inl b), some (.inl (0 : Int32))]) (st' := []) (m' := (fl_row (fl_row f 183 (upd (f 183) 8 (0 : Int32))) 184 (upd (upd (f 184) 23 (0 : Int32)) 20 a), l)) rfl rfl (fl_bo rfl) rfl ?_
  exact k
theorem x_be_C {L : Nat} {xs : Nat → Int32} {f : t2_F} {l : t2_L} {Q : Option fl_V → fl_M → Prop} {a b : Int32} {j : Nat}  (k : ((Int32.ofNat j).toInt < b.toInt) → fl_Tq (pw_P L xs) 170 61 [some (.inr (.inr (.inl (0, 0)))), some (.inl a), some (.inl b), some (.inl (Int32.ofNat j))] [.inr (.inr (.inl (49, 181)))] (f, l) Q) (k1 : (¬ ((Int32.ofNat j).toInt < b.toInt)) → Q (some (.inl (1 : Int32))) (f, l)) : fl_Tq (pw_P L xs) 170 52 [some (.inr (.inr (.inl (0, 0)))), some (.inl a), some (.inl b), some (.inl (Int32.ofNat j))] [] (f, l) Q := by
  refine fl_Tq.stp (pc' := 53) (lv' := [some (.inr (.inr (.inl (0, 0)))), some (.inl a), some (.inl b), some (.inl (Int32.ofNat j))]) (st' := [.inl (Int32.ofNat j)]) (m' := (f, l)) rfl rfl (fl_bo rfl) rfl ?_
  refine fl_Tq.stp (pc' := 54) (lv' := [some (.inr (.inr (.inl (0, 0)))), some (.inl a), some (.inl b), some (.inl (Int32.ofNat j))]) (st' := [.inl b, .inl (Int32.ofNat j)]) (m' := (f, l)) rfl rfl (fl_bo rfl) rfl ?_
  by_cases h1 : (Int32.ofNat j).toInt < b.toInt
  · refine fl_Tq.jf rfl (fl_bo rfl) (c2_ge_f h1) rfl ?_
    refine fl_Tq.stp (pc' := 58) (lv' := [some (.inr (.inr (.inl (0, 0)))), some (.inl a), some (.inl b), some (.inl (Int32.ofNat j))]) (st' := [.inr (.inr (.inl (0, 0)))]) (m' := (f, l)) rfl rfl (fl_bo rfl) rfl ?_
    refine fl_Tq.stp (pc' := 61) (lv' := [some (.inr (.inr (.inl (0, 0)))), some (.inl a), some (.inl b), some (.inl (Int32.ofNat j))]) (st' := [.inr (.inr (.inl (49, 181)))]) (m' := (f, l)) rfl rfl (fl_bo rfl) rfl ?_
    exact k h1
  · refine fl_Tq.jt rfl (fl_bo rfl) (c2_ge_t h1) rfl ?_
    refine fl_Tq.cI (c := (1 : Int32)) rfl (by decide +kernel) (fl_bo rfl) ?_
    exact fl_Tq.ret rfl rfl rfl (k1 h1)
theorem x_be_D {L : Nat} {xs : Nat → Int32} {f : t2_F} {l : t2_L} {Q : Option fl_V → fl_M → Prop} {a b z : Int32} {j : Nat}  (k : (0 < z.toInt) → Q (some (.inl (0 : Int32))) (f, l)) (k1 : (¬ (0 < z.toInt)) → ((f 181 9).toInt = a.toInt) → fl_Tq (pw_P L xs) 170 52 [some (.inr (.inr (.inl (0, 0)))), some (.inl a), some (.inl b), some (.inl ((Int32.ofNat j) + (1 : Int32)))] [] (f, l) Q) (k2 : (¬ (0 < z.toInt)) → (¬ ((f 181 9).toInt = a.toInt)) → Q (some (.inl (0 : Int32))) (f, l)) : fl_Tq (pw_P L xs) 170 64 [some (.inr (.inr (.inl (0, 0)))), some (.inl a), some (.inl b), some (.inl (Int32.ofNat j))] [.inl z] (f, l) Q := by
  by_cases h1 : 0 < z.toInt
  · refine fl_Tq.zt rfl (fl_bo rfl) (c1_gt_t h1) rfl ?_
    refine fl_Tq.cI (c := (0 : Int32)) rfl (by decide +kernel) (fl_bo rfl) ?_
    exact fl_Tq.ret rfl rfl rfl (k h1)
  · refine fl_Tq.zf rfl (fl_bo rfl) (c1_gt_f h1) rfl ?_
    refine fl_Tq.stp (pc' := 68) (lv' := [some (.inr (.inr (.inl (0, 0)))), some (.inl a), some (.inl b), some (.inl (Int32.ofNat j))]) (st' := [.inr (.inr (.inl (0, 0)))]) (m' := (f, l)) rfl rfl (fl_bo rfl) rfl ?_
    refine fl_Tq.stp (pc' := 71) (lv' := [some (.inr (.inr (.inl (0, 0)))), some (.inl a), some (.inl b), some (.inl (Int32.ofNat j))]) (st' := [.inr (.inr (.inl (49, 181)))]) (m' := (f, l)) rfl rfl (fl_bo rfl) rfl ?_
    refine fl_Tq.gfV (k := 9) (v := f 181 9) rfl (fl_bo rfl) rfl rfl ?_
    refine fl_Tq.stp (pc' := 75) (lv' := [some (.inr (.inr (.inl (0, 0)))), some (.inl a), some (.inl b), some (.inl (Int32.ofNat j))]) (st' := [.inl a, .inl (f 181 9)]) (m' := (f, l)) rfl rfl (fl_bo rfl) rfl ?_
    by_cases h2 : (f 181 9).toInt = a.toInt
    · refine fl_Tq.jt rfl (fl_bo rfl) (c2_eq_t h2) rfl ?_
      refine fl_Tq.stp (pc' := 83) (lv' := [some (.inr (.inr (.inl (0, 0)))), some (.inl a), some (.inl b), some (.inl ((Int32.ofNat j) + (1 : Int32)))]) (st' := []) (m' := (f, l)) rfl rfl (fl_bo rfl) rfl ?_
      refine fl_Tq.stp (pc' := 52) (lv' := [some (.inr (.inr (.inl (0, 0)))), some (.inl a), some (.inl b), some (.inl ((Int32.ofNat j) + (1 : Int32)))]) (st' := []) (m' := (f, l)) rfl rfl (fl_bo rfl) rfl ?_
      exact k1 h1 h2
    · refine fl_Tq.jf rfl (fl_bo rfl) (c2_eq_f h2) rfl ?_
      refine fl_Tq.cI (c := (0 : Int32)) rfl (by decide +kernel) (fl_bo rfl) ?_
      exact fl_Tq.ret rfl rfl rfl (k2 h1 h2)
theorem y_gb_E {L : Nat} {xs : Nat → Int32} {f : t2_F} {l : t2_L} {Q : Option fl_V → fl_M → Prop} {a b c d : Int32} (hc : c = 0 ∨ c = 1) (k : Q (some (.inl c)) (f, l)) : fl_Tq (pw_P L xs) 315 70 [some (.inr (.inr (.inl (76, 277)))), some (.inl a), some (.inl b), some (.inl c), some (.inl d)] [] (f, l) Q := by
  refine fl_Tq.stp (pc' := 71) (lv' := [some (.inr (.inr (.inl (76, 277)))), some (.inl a), some (.inl b), some (.inl c), some (.inl d)]) (st' := [.inl c]) (m' := (f, l)) rfl rfl (fl_bo rfl) rfl ?_
  exact fl_Tq.ret rfl rfl (if_pos hc) k
def tz_c164 : at_C := (164, [.inl (0, some 0), .inr (false, -2147483648, 2147483647), .inr (false, -2147483648, 2147483647)], [], some (.inr (false, -2147483600, 2147483600)), false, [(49, false, 5, 16), (51, false, 6, 8), (52, false, 0, 29), (53, false, 0, 2), (54, false, 0, 23), (55, false, 0, 11), (56, false, 0, 47), (57, false, 0, 39), (58, false, 3, 6), (59, false, 0, 10), (60, false, 0, 3), (61, false, 2, 3), (62, false, -69, 140), (64, false, 2, 3), (65, false, -93, 188), (66, false, 0, 18), (67, false, 2, 2), (68, false, 0, 31), (69, false, 0, 10), (70, false, 2, 3), (71, false, 0, 15), (72, false, 0, 15)])
set_option maxRecDepth 100000 in
theorem tz_c164_in : tz_c164 ∈ at_CM ++ at_CA := List.mem_of_getElem? (i := 172) rfl
def tz_c170 : at_C := (170, [.inl (0, some 0), .inr (false, -2147483648, 2147483647), .inr (false, -2147483648, 2147483647)], [], some (.inr (false, 0, 1)), false, [(49, false, 5, 16), (51, false, 6, 8), (52, false, 0, 29), (53, false, 0, 2), (54, false, 0, 23), (55, false, 0, 11), (56, false, 0, 47), (57, false, 0, 39), (58, false, 3, 6), (59, false, 0, 10), (60, false, 0, 3), (61, false, 2, 3), (62, false, -69, 140), (64, false, 2, 3), (65, false, -93, 188), (66, false, 0, 18), (67, false, 2, 2), (68, false, 0, 31), (69, false, 0, 10), (70, false, 2, 3), (71, false, 0, 15), (72, false, 0, 15)])
set_option maxRecDepth 100000 in
theorem tz_c170_in : tz_c170 ∈ at_CM ++ at_CA := List.mem_of_getElem? (i := 171) rfl
def tz_c315 : at_C := (315, [.inl (76, some 277), .inr (false, -99999, 99999), .inr (false, -2147483648, 2147483647)], [], some (.inr (false, 0, 1)), false, [(76, false, 4, 4), (76, false, 6, 7), (79, false, 2, 1419), (79, true, 1, 1), (79, true, 3, 4), (79, true, 7, 8), (79, true, 10, 60), (81, false, 0, 15), (82, false, 0, 1417)])
set_option maxRecDepth 100000 in
theorem tz_c315_in : tz_c315 ∈ at_CM ++ at_CA := List.mem_of_getElem? (i := 270) rfl
def tz_c316 : at_C := (316, [.inl (76, some 277), .inr (false, -2147483648, 2147483647), .inr (false, -2147483648, 2147483647)], [], some (.inr (false, -99900, 99900)), false, [(76, false, 4, 4), (76, false, 6, 7), (79, false, 2, 1419), (79, true, 1, 1), (79, true, 3, 4), (79, true, 7, 8), (79, true, 10, 60), (81, false, 0, 15), (82, false, 0, 1417)])
set_option maxRecDepth 100000 in
theorem tz_c316_in : tz_c316 ∈ at_CM ++ at_CA := List.mem_of_getElem? (i := 271) rfl
/-! ===== power, on both sides ===== -/
section P62
variable {L : Nat} {xs : Nat → Int32} {f g fc fr : t2_F} {l : t2_L} {v x a b : Int32} {n k : Nat}
/-- what the limits hang on -/
theorem r_limit_c {f' : t2_F} (h : ∀ w : Nat, (w = 2 ∨ w = 17 ∨ (34 ≤ w ∧ w ≤ 39) ∨ (67 ≤ w ∧ w < 79)) → f' 280 w = f 280 w) (hC : ∀ C w : Nat, (w = 0 ∨ w = 1 ∨ w = 3 ∨ w = 9) → f' 280 (444 + 61 * C + w) = f 280 (444 + 61 * C + w)) (hz : (f 280 17).toInt ≤ 6) : r_limitOf_v f' x = r_limitOf_v f x := by
  have own : ∀ C : Nat, r_limitBy_v f' (Int32.ofNat C) C x = r_limitBy_v f (Int32.ofNat C) C x := by
    intro C
    have a84 : ∀ k : Nat, k ≤ 6 → r_limitBy_a84 f' (Int32.ofNat C) C x k = r_limitBy_a84 f (Int32.ofNat C) C x k := by
      intro k
      induction k with
      | zero => intro _; rfl
      | succ k ih =>
        intro hk
        show (if (f' 280 (444 + 61 * C + 3)).toInt < (f' 280 (67 + (2 * k))).toInt then r_limitBy_a84 f' (Int32.ofNat C) C x k else f' 280 ((67 + (2 * k)) + 1)) = (if (f 280 (444 + 61 * C + 3)).toInt < (f 280 (67 + (2 * k))).toInt then r_limitBy_a84 f (Int32.ofNat C) C x k else f 280 ((67 + (2 * k)) + 1))
        rw [hC C 3 (by omega), h (67 + 2 * k) (by omega), h (67 + 2 * k + 1) (by omega), ih (by omega)]
    have z := a84 (f 280 17).toInt.toNat (by omega)
    unfold r_limitBy_v r_limitBy_j151_0 r_limitBy_j137_0 r_limitBy_j63_0 r_limitBy_j8_0 r_calmVolts_v r_partOf_v
    rw [h 17 (by omega), z, h 34 (by omega), h 35 (by omega), h 36 (by omega), h 37 (by omega), h 39 (by omega), hC C 0 (by omega), hC C 1 (by omega), hC C 3 (by omega), hC C 9 (by omega)]
  have a8 : ∀ k : Nat, r_limitOf_a8 f' x k = r_limitOf_a8 f x k := by
    intro k
    induction k with
    | zero => exact h 38 (by omega)
    | succ k ih =>
      show r_lesser_v (r_limitOf_a8 f' x k) (r_limitBy_v f' (Int32.ofNat k) k x) = r_lesser_v (r_limitOf_a8 f x k) (r_limitBy_v f (Int32.ofNat k) k x)
      rw [ih, own]
  unfold r_limitOf_v
  rw [h 2 (by omega), a8]
theorem r_limit_le : (r_limitOf_v f x).toInt ≤ (f 280 38).toInt := by
  have a8 : ∀ k : Nat, (r_limitOf_a8 f x k).toInt ≤ (f 280 38).toInt := by
    intro k
    induction k with
    | zero => exact Int.le_refl _
    | succ k ih =>
      show (r_lesser_v (r_limitOf_a8 f x k) (r_limitBy_v f (Int32.ofNat k) k x)).toInt ≤ _
      unfold r_lesser_v
      split <;> omega
  exact a8 _
/-- the first second's current -/
theorem c3_I.cur1 (h : c3_I fc fr) (ht : (fr 280 7).toInt < 9999) (nt : t3_nt fc) : r_psec_m fr 280 5 = (if (r_isLive_v (r_goBus_m (r_t1 fr))).toInt = 0 then (0 : Int32) else r_held_v (fr 280 54) (-(r_limitOf_v fr (1 : Int32))) (r_limitOf_v fr (0 : Int32))) := by
  obtain ⟨i1, i2, i3, i4, i5, i6, im, -, ⟨i8, -⟩, ik, -⟩ := h.chain ht nt
  have ok8 := i8.2.2.2.2
  have hh := i2
  obtain ⟨⟨⟨g5, g6, g7, g8⟩, -⟩, rs, gx, cl, ok⟩ := i2
  have hm0 : t2_lo 4 ≤ (r_goBus_m (r_t1 fr) 280 38).toInt ∧ (r_goBus_m (r_t1 fr) 280 38).toInt ≤ t2_hi 4 := ok.s (k := 4) (by decide)
  have l4 : t2_lo 4 = 1 := by decide
  have h4 : t2_hi 4 = 99999 := by decide
  obtain ⟨-, k2, -⟩ := c3_cur_eq hh.rl g7 gx.1.1 ok.2.2.1 (by omega)
  have e1 : r_goKept_m (r_goFaults_m (r_w6 fr)) 280 5 = r_goFaults_m (r_w6 fr) 280 5 := by
    unfold r_goKept_m
    exact r_goKept_f117_w ok8.2.1.2.2.1 (fun C hC => (ok8.2.2.2.2.2.2.2 C hC).1) ok8.2.2.2.2.2.2.1.2.2 (fun C hC => ⟨(ok8.2.2.2.2.2.2.2 C hC).2.2.2.2.2.2.2.1, (ok8.2.2.2.2.2.2.2 C hC).2.2.2.2.2.2.2.2.1⟩) (Nat.le_refl _) (Or.inl (by decide)) (by decide)
  have W : ∀ w : Nat, w ≠ 3 → w ≠ 4 → w ≠ 7 → r_goBus_m (r_t1 fr) 280 w = fr 280 w := fun w h3 h4 h7 => by
    rw [r_goBus_w2, if_neg h4, if_neg h3]
    unfold r_t1
    rw [fl_row_self, upd_ne h7]
  have lim : ∀ x : Int32, r_limitOf_v (r_goBus_m (r_t1 fr)) x = r_limitOf_v fr x := fun x => r_limit_c (fun w hw => W w (by omega) (by omega) (by omega)) (fun C w hw => W _ (by omega) (by omega) (by omega)) h.2.2.2.2.2.2.2.1.1.2
  unfold r_psec_m
  rw [e1, r_goFaults_w im.2.2.2.2.2.2.2.2.2.2.1.2.1 (by decide)]
  unfold r_w6
  rw [r_meas_mid (by decide), r_mid_lo (by decide) (by decide) (by decide)]
  unfold r_t5
  rw [fl_row_self, upd_ne (by decide), r_goBalance_w (by decide), r_cells_lo (by decide), k2]
  unfold r_goCurrent_j9_0
  rw [W 54 (by decide) (by decide) (by decide), lim, lim]
theorem c3_I.nn (h : c3_I fc fr) (ht : (fr 280 7).toInt < 9999) (nt : t3_nt fc) : 0 ≤ (r_psec_v fr).toInt := by
  obtain ⟨-, -, -, -, -, -, im, -⟩ := h.chain ht nt
  exact (r_flt_l (f := r_w6 fr) im.2.2.2.2.2.2.2.2.2.2.1.2.1 11 (Nat.le_refl 11)).2.1.1
/-- asked for so much, no taper, no rules -/
noncomputable def t3_H (g : t2_F) (v : Int32) : t2_F := fl_row (fl_row g 277 (upd (g 277) 7 (1 : Int32))) 280 (upd (g 280) 54 v)
noncomputable def t3_F (M : t2_F) (v : Int32) : t2_F := fl_row (fl_row M 183 (upd (M 183) 8 (0 : Int32))) 184 (upd (upd (M 184) 23 (0 : Int32)) 20 v)
theorem t3_H7 : t3_H g v 280 7 = g 280 7 := by
  unfold t3_H
  rw [fl_row_self, upd_ne (by decide)]
theorem t3_KK {M : t2_F} (K : c2_K M f) (hv : -99999 ≤ v.toInt ∧ v.toInt ≤ 99999) (g280 : ∀ w : Nat, 2 ≤ w → w < 1420 → g 280 w = f 280 w) (g279 : g 279 = f 279) : c3_K (t3_F M v) (t3_H g v) ∧ t3_nt (t3_F M v) := by
  have c0 : (0 : Int32).toInt = 0 := rfl
  have FP : ∀ p : Nat, p ≠ 183 → p ≠ 184 → t3_F M v p = M p := fun p h3 h4 => by unfold t3_F; rw [fl_row_ne h4, fl_row_ne h3]
  have F3 : t3_F M v 183 = upd (M 183) 8 (0 : Int32) := by unfold t3_F; rw [fl_row_ne (by decide), fl_row_self]
  have F4 : t3_F M v 184 = upd (upd (M 184) 23 (0 : Int32)) 20 v := by unfold t3_F; rw [fl_row_self]
  have H0 : ∀ w : Nat, w ≠ 54 → t3_H g v 280 w = g 280 w := fun w hw => by unfold t3_H; rw [fl_row_self, upd_ne hw]
  refine ⟨⟨c3_I.of2 K.1 hv (fun p _ _ h3 h4 => FP p h3 h4) (fun j hj => by rw [F3, upd_ne hj]) (by rw [F3, upd_self]; exact c0) (fun k h1 h2 => by rw [F4, upd_ne h1, upd_ne h2]) (by rw [F4, upd_self]) (fun w h1 h2 hw => by rw [H0 w hw, g280 w h1 h2]) (by unfold t3_H; rw [fl_row_self, upd_self]), K.2.1.congr (fun p hp => FP p (by omega) (by omega)), K.2.2.1.same ?_, ?_⟩, Or.inl ?_⟩
  · unfold t3_H
    rw [fl_row_ne (by decide), fl_row_ne (by decide), g279]
  · unfold t3_H
    rw [fl_row_ne (by decide), fl_row_self, upd_self]
  · rw [F4, upd_ne (by decide), upd_self, c0]
    exact Int.le_refl _
theorem t2_bsK (Z : t2_Z (f, l)) : c2_K (bs_m f 181 1) f := by
  have I : c0_I f f := Z.2.1
  have n := I.1.1.1
  obtain ⟨s1, s2, s3⟩ := (t2_B.of_now I).src (by decide)
  have S := bs_same (f := f) (p := 181) (q := 1) (by omega) s1
  have A : t2_blk (l.2) 181 48 := t2_blk_trial
  have a12 := A.place 12 61 (by decide) (by decide +kernel)
  have a15 := A.place 15 64 (by decide) (by decide +kernel)
  have w12 : f 193 0 = (24 : Int32) := t2_Good.k1 Z.1 (j := 0) a12.2 a12.1 (by decide +kernel)
  have w15 : f 196 0 = (32 : Int32) := t2_Good.k1 Z.1 (j := 0) a15.2 a15.1 (by decide +kernel)
  have I2 : c2_I (bs_m f 181 1) f := c2_I.of0 I (by rw [← n]; exact S.1) (S.2.1.trans w12) (S.2.2.trans w15)
  have J0 : c0_J f := t2_Good.J Z.1
  have J2 : c2_J f := t2_Good.J2 Z.1
  obtain ⟨-, ⟨-, -, -, -, -, -, e8⟩, -, -, ec, -⟩ := S.1
  refine ⟨I2, ⟨fun i hi k hk => ?_, fun k hk => ?_⟩, t2_Good.RS Z.1, Z.2.2.2.2⟩
  · by_cases h : i < (f 1 5).toInt.toNat
    · obtain ⟨-, -, h3, -⟩ := ec i h
      have e : bs_m f 181 1 (181 + (17 + 4 * i + 2)) k = f (1 + (17 + 4 * i + 2)) k := h3 k hk
      rw [show 181 + (17 + 4 * i + 2) = 200 + 4 * i by omega, show 1 + (17 + 4 * i + 2) = 20 + 4 * i by omega] at e
      show t2_pt (bs_m f 181 1 (200 + 4 * i) k)
      rw [e]
      exact J0.1 i hi k hk
    · have e : bs_m f 181 1 (200 + 4 * i) = f (200 + 4 * i) := bs_out s1 (by omega) (by omega)
      show t2_pt (bs_m f 181 1 (200 + 4 * i) k)
      rw [e]
      exact J2.1 i hi k hk
  · have e : bs_m f 181 1 189 (k * 5 + 3) = f 9 (k * 5 + 3) := e8 _ (by omega)
    rw [e]
    exact J0.2 k hk
/-- it doesn't go so in that second -/
noncomputable def t3_no (f : t2_F) (v : Int32) (s : Nat) : Bool := !(decide ((r_psec_v (r_prunN (t3_H f v) s)).toInt = 0) && decide ((r_prunN (t3_H f v) (s + 1) 280 5).toInt = v.toInt))
noncomputable def t3_b (f : t2_F) (v : Int32) (n : Nat) : Int32 := if t2_fst (t3_no f v) n < n then (0 : Int32) else (1 : Int32)
theorem t3_b01 : t3_b f v n = 0 ∨ t3_b f v n = 1 := by
  unfold t3_b
  split
  · exact Or.inl rfl
  · exact Or.inr rfl
theorem t3_no_f {s : Nat} (h : t3_no f v s = false) : (r_psec_v (r_prunN (t3_H f v) s)).toInt = 0 ∧ (r_prunN (t3_H f v) (s + 1) 280 5).toInt = v.toInt := by
  unfold t3_no at h
  rw [Bool.not_eq_false', Bool.and_eq_true, decide_eq_true_eq, decide_eq_true_eq] at h
  exact h
theorem t3_no_t {s : Nat} (h : t3_no f v s = true) : ¬ ((r_psec_v (r_prunN (t3_H f v) s)).toInt = 0 ∧ (r_prunN (t3_H f v) (s + 1) 280 5).toInt = v.toInt) := by
  unfold t3_no at h
  intro q
  rw [decide_eq_true q.1, decide_eq_true q.2] at h
  cases h
theorem t2_keepZ {c1 : at_C} {ac : List fl_V} {mc : Nat} {R : Option fl_V → Prop} (hv1 : at_Valid at_XI (pw_P L xs) c1) (e1 : c1.1 = mc) (Z : t2_Z (g, l)) (k1 : at_agk l.2 c1.2.1 ac) (l1 : c1.2.2.1 = []) (F : fl_Tq (pw_P L xs) mc 0 (fl_args (am_mxl (pw_P L xs) mc) ac) [] (g, l) (fun v m => ∃ G : t2_F, m = (G, l) ∧ (∀ p : Nat, p < 181 ∨ 271 ≤ p → G p = g p) ∧ R v)) : fl_Tq (pw_P L xs) mc 0 (fl_args (am_mxl (pw_P L xs) mc) ac) [] (g, l) (fun v m => ∃ G : t2_F, m = (G, l) ∧ t2_Z (G, l) ∧ (∀ p : Nat, p < 181 ∨ 271 ≤ p → G p = g p) ∧ R v) := by
  subst e1
  refine fl_Tq.mono (t2_join F (hv1 (g, l) ac Z.1 k1 (fun q hq => by rw [l1] at hq; cases hq))) ?_
  rintro v m1 ⟨⟨G, rfl, fr, r⟩, v2, m2, -, e2, g2, -, -⟩
  have U : t2_U (G, l) := fun p hp i => by
    have hp : fl_N l.2 ≤ p := hp
    have h285 : 285 ≤ fl_N l.2 := by unfold fl_N; omega
    show G p i = _
    rw [fr p (by omega)]
    exact Z.U p hp i
  have g1 : at_Good at_XI (G, l) := t2_Good e2 g2 U
  exact ⟨G, rfl, ⟨g1, Z.2.ext (fun p hp => fr p (by omega)) (fun w _ => by show G 280 w = g 280 w; rw [fr 280 (by decide)]) (fun w _ => by show G 281 w = g 281 w; rw [fr 281 (by decide)]) (by show G 277 7 = g 277 7; rw [fr 277 (by decide)])⟩, fr, r⟩
/-- bears -/
theorem x_bears_q (hall : ∀ c ∈ at_CM ++ at_CA, at_Valid at_XI (pw_P L xs) c) (Z : t2_Z (g, l)) (gf : ∀ p : Nat, p < 181 ∨ 271 ≤ p → g p = f p) (hv : -99999 ≤ v.toInt ∧ v.toInt ≤ 99999) (hb : b.toInt = n) (hT : (f 280 7).toInt + n ≤ 9999) : fl_Tq (pw_P L xs) 170 0 (fl_args (am_mxl (pw_P L xs) 170) [lx_x, .inl v, .inl b]) [] (g, l) (fun r m => ∃ G : t2_F, m = (G, l) ∧ t2_Z (G, l) ∧ (∀ p : Nat, p < 181 ∨ 271 ≤ p → G p = g p) ∧ r = some (.inl (t3_b f v n))) := by
  refine t2_keepZ (R := fun r => r = some (.inl (t3_b f v n))) (hall _ tz_c170_in) rfl Z ⟨lx_kx _, lx_ki _, lx_ki _, True.intro⟩ rfl ?_
  show fl_Tq (pw_P L xs) 170 0 [some (.inr (.inr (.inl (0, 0)))), some (.inl v), some (.inl b), none] [] (g, l) _
  refine x_be_A ?_
  refine fl_Tq.cal rfl rfl (fl_bo rfl) rfl ?_
  refine t2_begun Z (fun M mf K => ?_)
  refine x_be_B ?_
  have f7 : 0 ≤ (f 280 7).toInt := by
    have h := Z.2.1.2.2.2.2.2.1.2.2.2.1
    rw [← gf 280 (by decide)]
    exact h
  obtain ⟨KH, nt⟩ := t3_KK (g := f) K hv (fun w _ _ => by rw [gf 280 (by decide)]) (by rw [gf 279 (by decide)])
  show fl_Tq (pw_P L xs) 170 52 [some (.inr (.inr (.inl (0, 0)))), some (.inl v), some (.inl b), some (.inl (Int32.ofNat 0))] [] (t3_F M v, l) _
  have FP : ∀ p : Nat, p < 181 ∨ 271 ≤ p → t3_F M v p = g p := fun p hp => by unfold t3_F; rw [fl_row_ne (by omega), fl_row_ne (by omega), mf p hp]
  generalize t3_F M v = F at KH nt FP ⊢
  have RUN : ∀ k : Nat, k ≤ n → c3_K (c2_runN F k) (r_prunN (t3_H f v) k) ∧ (r_prunN (t3_H f v) k 280 7).toInt = (f 280 7).toInt + k ∧ t3_nt (c2_runN F k) ∧ ∀ p : Nat, p < 181 ∨ 271 ≤ p → c2_runN F k p = g p := fun k hk => by
    have r := KH.run nt k (by rw [t3_H7]; omega)
    rw [t3_H7] at r
    exact ⟨r.1, r.2.1, nt.same r.2.2.1, fun p hp => by rw [r.2.2.2 p hp, FP p hp]⟩
  have c0 : (0 : Int32).toInt = 0 := rfl
  obtain ⟨F0, F1⟩ := t2_fst_p (t3_no f v) n
  have FL := t2_fst_le (t3_no f v) n
  unfold t3_b
  generalize t2_fst (t3_no f v) n = N at F0 F1 FL
  refine t2_for (n := N) (S := fun j => fl_Tq (pw_P L xs) 170 52 [some (.inr (.inr (.inl (0, 0)))), some (.inl v), some (.inl b), some (.inl (Int32.ofNat j))] [] (c2_runN F j, l) _) (fun j hj hS => ?_) ?_
  · have ej : (Int32.ofNat j).toInt = j := at_ofN (by have := at_i32 b; omega)
    obtain ⟨K1, t, ntj, -⟩ := RUN j (by omega)
    obtain ⟨K2, -⟩ := RUN (j + 1) (by omega)
    obtain ⟨z1, z2⟩ := t3_no_f (F0 j hj)
    refine x_be_C (fun _ => ?_) (fun h => absurd (by rw [ej, hb]; omega) h)
    refine fl_Tq.cal rfl rfl (fl_bo rfl) rfl ?_
    refine c3_sec_q K1.1 (by rw [t]; omega) ntj K1.2.1 ?_
    have ez := K1.sec (by rw [t]; omega) ntj
    have w5 : c2_runN F (j + 1) 181 9 = r_prunN (t3_H f v) (j + 1) 280 5 := K2.1.1.2.1.1
    refine x_be_D (fun h => absurd h (by rw [ez]; omega)) (fun _ _ => ?_) (fun _ h => absurd (by show (c2_runN F (j + 1) 181 9).toInt = _; rw [w5]; exact z2) h)
    rw [t2_k1]
    exact hS
  · have eN : (Int32.ofNat N).toInt = N := at_ofN (by have := at_i32 b; omega)
    obtain ⟨K1, t, ntj, PN⟩ := RUN N FL
    refine x_be_C (fun h => ?_) (fun h => ?_)
    · rw [eN, hb] at h
      have hN : N < n := by omega
      obtain ⟨K2, -, -, PM⟩ := RUN (N + 1) hN
      have z := t3_no_t (F1 hN)
      rw [if_pos hN]
      refine fl_Tq.cal rfl rfl (fl_bo rfl) rfl ?_
      refine c3_sec_q K1.1 (by rw [t]; omega) ntj K1.2.1 ?_
      have ez := K1.sec (by rw [t]; omega) ntj
      have nn := K1.1.nn (by rw [t]; omega) ntj
      have w5 : c2_runN F (N + 1) 181 9 = r_prunN (t3_H f v) (N + 1) 280 5 := K2.1.1.2.1.1
      refine x_be_D (fun _ => ⟨_, rfl, PM, rfl⟩) (fun h1 h2 => ?_) (fun _ _ => ⟨_, rfl, PM, rfl⟩)
      refine absurd ?_ z
      rw [ez] at h1
      have h2 : (c2_runN F (N + 1) 181 9).toInt = v.toInt := h2
      rw [w5] at h2
      exact ⟨by omega, h2⟩
    · rw [eN, hb] at h
      rw [if_neg (by omega)]
      exact ⟨_, rfl, PN, rfl⟩
theorem r_prunN_p {p : Nat} (h280 : p ≠ 280) (h277 : p ≠ 277) (h282 : p ≠ 282) : ∀ k : Nat, r_prunN f k p = f p := by
  intro k
  induction k with
  | zero => rfl
  | succ k ih =>
    show r_psec_m (r_prunN f k) p = _
    rw [r_psec_p h280 h277 h282, ih]
/-- goesBy -/
theorem y_goes_q (Z : t2_Z (f, l)) (g280 : ∀ w : Nat, 2 ≤ w → w < 1420 → g 280 w = f 280 w) (g279 : g 279 = f 279) (hv : -99999 ≤ v.toInt ∧ v.toInt ≤ 99999) (hb : b.toInt = n) (hT : (f 280 7).toInt + n ≤ 9999) : fl_Tq (pw_P L xs) 315 0 (fl_args (am_mxl (pw_P L xs) 315) [at_this, .inl v, .inl b]) [] (g, l) (fun r m => ∃ G : t2_F, m = (G, l) ∧ (∀ w : Nat, 2 ≤ w → w < 1420 → G 280 w = f 280 w) ∧ G 279 = f 279 ∧ r = some (.inl (t3_b f v n))) := by
  show fl_Tq (pw_P L xs) 315 0 [some (.inr (.inr (.inl (76, 277)))), some (.inl v), some (.inl b), none, none] [] (g, l) _
  refine z315_A ?_
  refine fl_Tq.cal rfl rfl (fl_bo rfl) rfl ?_
  refine r_putAside_q (m := (g, l)) (fun h hp hc => ?_)
  have hp : ∀ p : Nat, p ≠ 283 → h p = g p := hp
  have hc : ∀ j : Nat, j < 1418 → h 283 j = g 280 (2 + j) := hc
  refine z315_B ?_
  have f7 : 0 ≤ (f 280 7).toInt := Z.2.1.2.2.2.2.2.1.2.2.2.1
  have c0 : (0 : Int32).toInt = 0 := rfl
  have c1 : (1 : Int32).toInt = 1 := by decide +kernel
  have K := t2_bsK Z
  obtain ⟨KF, nt⟩ := t3_KK (g := f) K hv (fun w _ _ => rfl) rfl
  obtain ⟨KH, -⟩ := t3_KK (g := h) K hv (fun w h1 h2 => by rw [hp 280 (by decide), g280 w h1 h2]) (by rw [hp 279 (by decide), g279])
  generalize t3_F (bs_m f 181 1) v = F at KF KH nt
  have h7 : t3_H h v 280 7 = f 280 7 := by rw [t3_H7, hp 280 (by decide), g280 7 (by decide) (by decide)]
  show fl_Tq (pw_P L xs) 315 22 [some (.inr (.inr (.inl (76, 277)))), some (.inl v), some (.inl b), some (.inl (1 : Int32)), some (.inl (Int32.ofNat 0))] [] (t3_H h v, l) _
  have H283 : t3_H h v 283 = h 283 := by unfold t3_H; rw [fl_row_ne (by decide), fl_row_ne (by decide)]
  have H279 : t3_H h v 279 = f 279 := by unfold t3_H; rw [fl_row_ne (by decide), fl_row_ne (by decide), hp 279 (by decide), g279]
  generalize t3_H h v = H at KH h7 H283 H279 ⊢
  have RUN : ∀ k : Nat, k ≤ n → c3_K (c2_runN F k) (r_prunN H k) ∧ (r_prunN H k 280 7).toInt = (f 280 7).toInt + k ∧ t3_nt (c2_runN F k) ∧ (k < n → r_psec_v (r_prunN H k) = r_psec_v (r_prunN (t3_H f v) k)) ∧ r_prunN H k 280 5 = r_prunN (t3_H f v) k 280 5 := fun k hk => by
    have r := KH.run nt k (by rw [h7]; omega)
    have q := KF.run nt k (by rw [t3_H7]; omega)
    rw [h7] at r
    rw [t3_H7] at q
    have ntk := nt.same r.2.2.1
    refine ⟨r.1, r.2.1, ntk, fun hk2 => ?_, ?_⟩
    · rw [← r.1.sec (by rw [r.2.1]; omega) ntk, q.1.sec (by rw [q.2.1]; omega) ntk]
    · have e1 : c2_runN F k 181 9 = r_prunN H k 280 5 := r.1.1.1.2.1.1
      have e2 : c2_runN F k 181 9 = r_prunN (t3_H f v) k 280 5 := q.1.1.1.2.1.1
      rw [← e1, e2]
  have fin : ∀ (J : Nat) (c d : Int32), c = t3_b f v n → fl_Tq (pw_P L xs) 315 67 [some (.inr (.inr (.inl (76, 277)))), some (.inl v), some (.inl b), some (.inl c), some (.inl d)] [.inr (.inr (.inl (76, 277)))] (fl_row (r_prunN H J) 277 (upd (r_prunN H J 277) 7 (0 : Int32)), l) (fun r m => ∃ G : t2_F, m = (G, l) ∧ (∀ w : Nat, 2 ≤ w → w < 1420 → G 280 w = f 280 w) ∧ G 279 = f 279 ∧ r = some (.inl (t3_b f v n))) := by
    intro J c d hcc
    refine fl_Tq.cal rfl rfl (fl_bo rfl) rfl ?_
    refine r_bringBack_q (m := (fl_row (r_prunN H J) 277 (upd (r_prunN H J 277) 7 (0 : Int32)), l)) (fun g2 a1 _ a3 => ?_)
    have a1 : ∀ p : Nat, p ≠ 280 → g2 p = fl_row (r_prunN H J) 277 (upd (r_prunN H J 277) 7 (0 : Int32)) p := a1
    have a3 : ∀ j : Nat, j < 1418 → g2 280 (2 + j) = fl_row (r_prunN H J) 277 (upd (r_prunN H J 277) 7 (0 : Int32)) 283 j := a3
    refine y_gb_E (by rw [hcc]; exact t3_b01) ⟨g2, rfl, fun w h1 h2 => ?_, ?_, by rw [hcc]⟩
    · have := a3 (w - 2) (by omega)
      rw [show 2 + (w - 2) = w by omega] at this
      rw [this, fl_row_ne (by decide), r_prunN_p (by decide) (by decide) (by decide), H283, hc _ (by omega), show 2 + (w - 2) = w by omega, g280 w h1 h2]
    · rw [a1 279 (by decide), fl_row_ne (by decide), r_prunN_p (by decide) (by decide) (by decide), H279]
  obtain ⟨F0, F1⟩ := t2_fst_p (t3_no f v) n
  have FL := t2_fst_le (t3_no f v) n
  have eb : t3_b f v n = if t2_fst (t3_no f v) n < n then (0 : Int32) else (1 : Int32) := rfl
  generalize t2_fst (t3_no f v) n = N at F0 F1 FL eb
  refine t2_for (n := N) (S := fun j => fl_Tq (pw_P L xs) 315 22 [some (.inr (.inr (.inl (76, 277)))), some (.inl v), some (.inl b), some (.inl (1 : Int32)), some (.inl (Int32.ofNat j))] [] (r_prunN H j, l) _) (fun j hj hS => ?_) ?_
  · have ej : (Int32.ofNat j).toInt = j := at_ofN (by have := at_i32 b; omega)
    obtain ⟨K1, t, ntj, ev, -⟩ := RUN j (by omega)
    obtain ⟨-, -, -, -, e5⟩ := RUN (j + 1) (by omega)
    obtain ⟨z1, z2⟩ := t3_no_f (F0 j hj)
    refine z315_C (fun _ h => absurd h (by rw [c1]; decide)) (fun _ _ => ?_) (fun h => absurd (by rw [ej, hb]; omega) h)
    refine fl_Tq.cal rfl rfl (fl_bo rfl) rfl ?_
    refine c3_rsec_q K1.1 (by rw [t]; omega) ntj K1.2.2.1 K1.2.2.2 ?_
    refine z315_D ?_
    rw [t2_k1]
    have ec : z315_D_j36_0 (r_psec_m (r_prunN H j)) v b (1 : Int32) (r_psec_v (r_prunN H j)) j = (1 : Int32) := by
      have w5 : r_psec_m (r_prunN H j) 280 5 = r_prunN (t3_H f v) (j + 1) 280 5 := e5
      unfold z315_D_j36_0
      rw [ev (by omega), if_pos z1, w5, if_pos z2]
    rw [ec]
    exact hS
  · have eN : (Int32.ofNat N).toInt = N := at_ofN (by have := at_i32 b; omega)
    obtain ⟨K1, t, ntj, ev, -⟩ := RUN N FL
    refine z315_C (fun _ h => absurd h (by rw [c1]; decide)) (fun h _ => ?_) (fun h => fin N _ _ (by rw [eN, hb] at h; rw [eb, if_neg (by omega)]))
    rw [eN, hb] at h
    have hN : N < n := by omega
    obtain ⟨-, -, -, -, e5⟩ := RUN (N + 1) hN
    have z := t3_no_t (F1 hN)
    refine fl_Tq.cal rfl rfl (fl_bo rfl) rfl ?_
    refine c3_rsec_q K1.1 (by rw [t]; omega) ntj K1.2.2.1 K1.2.2.2 ?_
    refine z315_D ?_
    rw [t2_k1]
    have ec : z315_D_j36_0 (r_psec_m (r_prunN H N)) v b (1 : Int32) (r_psec_v (r_prunN H N)) N = (0 : Int32) := by
      have w5 : r_psec_m (r_prunN H N) 280 5 = r_prunN (t3_H f v) (N + 1) 280 5 := e5
      unfold z315_D_j36_0
      rw [ev hN, w5]
      by_cases y1 : (r_psec_v (r_prunN (t3_H f v) N)).toInt = 0
      · rw [if_pos y1, if_neg (fun y2 => z ⟨y1, y2⟩)]
      · rw [if_neg y1]
    rw [ec]
    have e0 : (0 : Int32) = t3_b f v n := by rw [eb, if_pos hN]
    refine z315_C (f := r_prunN H (N + 1)) (fun _ _ => fin (N + 1) _ _ e0) (fun _ h => absurd c0 h) (fun _ => fin (N + 1) _ _ e0)
/-- none beyond the limit -/
theorem t3_beyond (Z : t2_Z (f, l)) (hv : -99999 ≤ v.toInt ∧ v.toInt ≤ 99999) (hT : (f 280 7).toInt + n ≤ 9999) (hn : 1 ≤ n) (l0 : 0 ≤ (r_limitOf_v f (0 : Int32)).toInt ∧ (r_limitOf_v f (0 : Int32)).toInt ≤ 99999) (l1 : 0 ≤ (r_limitOf_v f (1 : Int32)).toInt ∧ (r_limitOf_v f (1 : Int32)).toInt ≤ 99999) (h : (r_limitOf_v f (0 : Int32)).toInt < v.toInt ∨ v.toInt < -(r_limitOf_v f (1 : Int32)).toInt) : t3_b f v n = 0 := by
  have c0 : (0 : Int32).toInt = 0 := rfl
  have f7 : 0 ≤ (f 280 7).toInt := Z.2.1.2.2.2.2.2.1.2.2.2.1
  obtain ⟨KF, nt⟩ := t3_KK (g := f) (t2_bsK Z) hv (fun w _ _ => rfl) rfl
  have e := KF.1.cur1 (by rw [t3_H7]; omega) nt
  have H54 : t3_H f v 280 54 = v := by unfold t3_H; rw [fl_row_self, upd_self]
  have z6 : (f 280 17).toInt ≤ 6 := Z.2.1.2.2.2.2.2.2.2.1.1.2
  have lim : ∀ x : Int32, r_limitOf_v (t3_H f v) x = r_limitOf_v f x := fun x => r_limit_c (fun w hw => by unfold t3_H; rw [fl_row_self, upd_ne (by omega)]) (fun C w hw => by unfold t3_H; rw [fl_row_self, upd_ne (by omega)]) z6
  rw [H54, lim, lim] at e
  have ne : ¬ (r_psec_m (t3_H f v) 280 5).toInt = v.toInt := by
    rw [e]
    split
    · rw [c0]
      omega
    · have nl : (-(r_limitOf_v f (1 : Int32))).toInt = -(r_limitOf_v f (1 : Int32)).toInt := by rw [Int32.toInt_neg, Int.bmod_eq_of_le (by omega) (by omega)]
      unfold r_held_v
      split
      · omega
      · split <;> omega
  obtain ⟨F0, F1⟩ := t2_fst_p (t3_no f v) n
  unfold t3_b
  by_cases hN : t2_fst (t3_no f v) n < n
  · rw [if_pos hN]
  · have := F0 0 (by omega)
    exact absurd (t3_no_f this).2 ne
theorem t2_cmp_62 (hall : ∀ c ∈ at_CM ++ at_CA, at_Valid at_XI (pw_P L xs) c) (hg : t2_Z (f, l)) : fl_Tq (pw_P L xs) 164 0 (fl_args (am_mxl (pw_P L xs) 164) [lx_x, .inl a, .inl b]) [] (f, l) (t2_End L xs 316 [at_this, .inl a, .inl b]) := by
  have I : c0_I f f := hg.2.1
  have c0 : (0 : Int32).toInt = 0 := rfl
  have c1 : (1 : Int32).toInt = 1 := by decide +kernel
  have cm : (-1 : Int32).toInt = -1 := by decide +kernel
  have c2 : (2 : Int32).toInt = 2 := by decide +kernel
  have c60 : (60 : Int32).toInt = 60 := by decide +kernel
  have c9 : (9999 : Int32).toInt = 9999 := by decide +kernel
  have c100 : (100 : Int32).toInt = 100 := by decide +kernel
  have cm100 : (-100 : Int32).toInt = -100 := by decide +kernel
  have e6 : f 1 6 = f 280 7 := I.1.1.2.1
  have e7 : f 1 7 = f 280 3 := I.1.1.2.2.1
  have t7 : 0 ≤ (f 280 7).toInt ∧ (f 280 7).toInt ≤ 9999 := I.2.2.2.2.2.1.2.2.2
  have hz : 0 ≤ (f 280 17).toInt ∧ (f 280 17).toInt ≤ 6 := I.2.2.2.2.2.2.2.1.1
  have z6 : f 3 6 = f 280 17 := I.2.2.1.1.2.1.1
  have ea : (1 ≤ b.toInt ∧ b.toInt ≤ 60) → ((f 280 7) + b).toInt = (f 280 7).toInt + b.toInt := fun h => at_add32 (by omega) (by omega)
  refine t2_trial (hall _ tz_c164_in) rfl hg ⟨lx_kx _, lx_ki _, lx_ki _, True.intro⟩ rfl (fun m Z => t2_acall (hall _ tz_c316_in) rfl Z ⟨at_k277 _, lx_ki _, lx_ki _, True.intro⟩ rfl rfl rfl (t2_z316 hall Z.1 Z.2.2.2.2)) ?_
  show fl_Tq (pw_P L xs) 164 0 [some (.inr (.inr (.inl (0, 0)))), some (.inl a), some (.inl b), none, none, none] [] (f, l) _
  have no : ¬ (((0 ≤ a.toInt ∧ a.toInt ≤ 1) ∧ ((1 ≤ b.toInt ∧ b.toInt ≤ 60) ∧ (f 280 7).toInt + b.toInt ≤ 9999)) ∧ (f 280 3).toInt = 2) → ∃ (G : t2_F) (y : Int32), (some (.inl (-1 : Int32)) : Option fl_V) = some (.inl y) ∧ ((f, l) : fl_M) = (G, l) ∧ (∀ p : Nat, p < 181 ∨ 271 ≤ p → G p = f p) ∧ fl_Tq (pw_P L xs) 316 0 (fl_args (am_mxl (pw_P L xs) 316) [at_this, .inl a, .inl b]) [] (G, l) (fun v2 _ => v2 = some (.inl y)) := fun hn => by
    refine ⟨f, _, rfl, rfl, fun p _ => rfl, ?_⟩
    show fl_Tq (pw_P L xs) 316 0 [some (.inr (.inr (.inl (76, 277)))), some (.inl a), some (.inl b), none] [] (f, l) _
    refine z316_A (fun _ => rfl) (fun h => ?_)
    rw [r_i0, Classical.not_not, c0, c1] at h
    refine fl_Tq.cal rfl rfl (fl_bo rfl) rfl ?_
    refine r_canRun_q ?_
    refine z316_B (fun _ => rfl) (fun h1 h2 => ?_) (fun _ _ => rfl)
    rw [t2_can t7 (by omega), Classical.not_not, c60] at h1
    rw [c2] at h2
    exact absurd ⟨⟨h, h1⟩, h2⟩ hn
  have fits : (if (t2_within_v a (0 : Int32) (1 : Int32)).toInt = 0 then (0 : Int32) else (if (t2_within_v b (1 : Int32) (60 : Int32)).toInt = 0 then (0 : Int32) else (1 : Int32))).toInt = 0 ↔ ¬ ((0 ≤ a.toInt ∧ a.toInt ≤ 1) ∧ (1 ≤ b.toInt ∧ b.toInt ≤ 60)) := by
    by_cases h1 : (t2_within_v a (0 : Int32) (1 : Int32)).toInt = 0
    · rw [if_pos h1]
      rw [t2_w0, c0, c1] at h1
      exact ⟨fun _ h => h1 h.1, fun _ => c0⟩
    · rw [if_neg h1]
      rw [t2_w0, c0, c1, Classical.not_not] at h1
      by_cases h2 : (t2_within_v b (1 : Int32) (60 : Int32)).toInt = 0
      · rw [if_pos h2]
        rw [t2_w0, c1, c60] at h2
        exact ⟨fun _ h => h2 h.2, fun _ => c0⟩
      · rw [if_neg h2, c1]
        rw [t2_w0, c1, c60, Classical.not_not] at h2
        exact ⟨fun h => absurd h (by decide), fun h => absurd ⟨h1, h2⟩ h⟩
  refine x_po_A (fun h1 => no (fun h => fits.mp h1 ⟨h.1.1, h.1.2.1⟩)) (fun h1 _ h3 => no (fun h => ?_)) (fun h1 h2 h3 => ?_) (fun _ h2 => no (fun h => h2 (by rw [e7, c2]; exact h.2)))
  · rw [e6, ea h.1.2.1, c9] at h3
    omega
  rw [fits, Classical.not_not] at h1
  obtain ⟨va, vb⟩ := h1
  rw [e7, c2] at h2
  rw [e6, ea vb, c9] at h3
  have vT : (f 280 7).toInt + b.toInt ≤ 9999 := by omega
  generalize (if (t2_within_v a (0 : Int32) (1 : Int32)).toInt = 0 then (0 : Int32) else (if (t2_within_v b (1 : Int32) (60 : Int32)).toInt = 0 then (0 : Int32) else (1 : Int32))) = fi
  obtain ⟨n, hn⟩ : ∃ n : Nat, b.toInt = (n : Int) := ⟨b.toInt.toNat, by omega⟩
  have hm0 : t2_lo 4 ≤ (f 280 38).toInt ∧ (f 280 38).toInt ≤ t2_hi 4 := I.2.2.2.2.s (k := 4) (by decide)
  have l4 : t2_lo 4 = 1 := by decide
  have h4 : t2_hi 4 = 99999 := by decide
  have lnn : ∀ x : Int32, 0 ≤ (r_limitOf_v f x).toInt ∧ (r_limitOf_v f x).toInt ≤ 99999 := fun x => I.rl.lim_nn (by omega)
  have lle : (r_limitOf_v f a).toInt ≤ (f 280 38).toInt := r_limit_le
  have la := lnn a
  refine fl_Tq.cal rfl rfl (fl_bo rfl) rfl ?_
  refine c0_limitOf_q I.hc (by rw [z6]; exact hz) ?_
  refine x_po_B ?_
  have el : c0_limitOf_v f a = r_limitOf_v f a := I.rl.limit
  rw [el]
  -- sizes by hundreds
  obtain ⟨q, hq⟩ : ∃ q : Nat, (q : Int) = (r_limitOf_v f a).toInt / 100 := ⟨((r_limitOf_v f a).toInt / 100).toNat, by omega⟩
  obtain ⟨Q, hQ⟩ : ∃ Q : Nat, (Q : Int) = (f 280 38).toInt / 100 := ⟨((f 280 38).toInt / 100).toNat, by omega⟩
  have qQ : q ≤ Q := by omega
  have Qb : Q ≤ 999 := by omega
  have hund : ∀ z : Int32, ∀ m : Nat, 0 ≤ z.toInt → z.toInt ≤ 99999 → (m : Int) = z.toInt / 100 → (z / (100 : Int32)) * (100 : Int32) = Int32.ofNat (100 * m) := fun z m z0 z1 hm => by
    have d : (z / (100 : Int32)).toInt = z.toInt / 100 := by rw [at_div32 (by omega) (by omega), c100]
    refine Int32.toInt.inj ?_
    rw [at_mul32 (by rw [d, c100]; omega) (by rw [d, c100]; omega), d, c100, at_ofN (by omega)]
    omega
  have down : ∀ m : Nat, 1 ≤ m → m ≤ 999 → Int32.ofNat (100 * m) + (-100 : Int32) = Int32.ofNat (100 * (m - 1)) := fun m h1 h2 => by
    have e1 := at_ofN (k := 100 * m) (by omega)
    refine Int32.toInt.inj ?_
    rw [at_add32 (by rw [e1, cm100]; omega) (by rw [e1, cm100]; omega), e1, cm100, at_ofN (by omega)]
    omega
  rw [hund _ q (by omega) (by omega) hq]
  have vv : ∀ m : Nat, m ≤ 999 → (if a.toInt = 0 then (1 : Int32) else (-1 : Int32)) * Int32.ofNat (100 * m) = (if a.toInt = 0 then Int32.ofNat (100 * m) else -(Int32.ofNat (100 * m))) := fun m hm => by
    have e1 := at_ofN (k := 100 * m) (by omega)
    by_cases h : a.toInt = 0
    · rw [if_pos h, if_pos h]
      refine Int32.toInt.inj ?_
      rw [at_mul32 (by rw [e1, c1]; omega) (by rw [e1, c1]; omega), c1, Int.one_mul]
    · rw [if_neg h, if_neg h]
      refine Int32.toInt.inj ?_
      rw [at_mul32 (by rw [e1, cm]; omega) (by rw [e1, cm]; omega), cm, Int32.toInt_neg, Int.bmod_eq_of_le (by omega) (by omega)]
      omega
  have vb2 : ∀ m : Nat, m ≤ 999 → (if a.toInt = 0 then Int32.ofNat (100 * m) else -(Int32.ofNat (100 * m))).toInt = (if a.toInt = 0 then (100 * m : Int) else -(100 * m : Int)) := fun m hm => by
    have e1 := at_ofN (k := 100 * m) (by omega)
    by_cases h : a.toInt = 0
    · rw [if_pos h, if_pos h, e1]
      omega
    · rw [if_neg h, if_neg h, Int32.toInt_neg, Int.bmod_eq_of_le (by omega) (by omega), e1]
      omega
  have vr : ∀ m : Nat, m ≤ 999 → -99999 ≤ (if a.toInt = 0 then Int32.ofNat (100 * m) else -(Int32.ofNat (100 * m))).toInt ∧ (if a.toInt = 0 then Int32.ofNat (100 * m) else -(Int32.ofNat (100 * m))).toInt ≤ 99999 := fun m hm => by
    rw [vb2 m hm]
    split <;> omega
  have far : ∀ m : Nat, q < m → m ≤ 999 → t3_b f (if a.toInt = 0 then Int32.ofNat (100 * m) else -(Int32.ofNat (100 * m))) n = 0 := fun m h1 h2 => by
    refine t3_beyond hg (vr m h2) (by omega) (by omega) (lnn _) (lnn _) ?_
    rw [vb2 m h2]
    by_cases h : a.toInt = 0
    · have : a = (0 : Int32) := Int32.toInt.inj (by rw [h, c0])
      rw [this] at hq
      rw [if_pos h]
      exact Or.inl (by omega)
    · have : a = (1 : Int32) := Int32.toInt.inj (by rw [c1]; omega)
      rw [this] at hq
      rw [if_neg h]
      exact Or.inr (by omega)
  -- the first size that is borne
  obtain ⟨F0, F1⟩ := t2_fst_p (fun k => decide (¬ (t3_b f (if a.toInt = 0 then Int32.ofNat (100 * (q - k)) else -(Int32.ofNat (100 * (q - k)))) n).toInt = 0)) q
  have FL := t2_fst_le (fun k => decide (¬ (t3_b f (if a.toInt = 0 then Int32.ofNat (100 * (q - k)) else -(Int32.ofNat (100 * (q - k)))) n).toInt = 0)) q
  generalize t2_fst (fun k => decide (¬ (t3_b f (if a.toInt = 0 then Int32.ofNat (100 * (q - k)) else -(Int32.ofNat (100 * (q - k)))) n).toInt = 0)) q = N at F0 F1 FL
  have f0 : ∀ k : Nat, k < N → (t3_b f (if a.toInt = 0 then Int32.ofNat (100 * (q - k)) else -(Int32.ofNat (100 * (q - k)))) n).toInt = 0 := fun k hk => Classical.not_not.mp (of_decide_eq_false (F0 k hk))
  have f1 : N < q → ¬ (t3_b f (if a.toInt = 0 then Int32.ofNat (100 * (q - N)) else -(Int32.ofNat (100 * (q - N)))) n).toInt = 0 := fun h => of_decide_eq_true (F1 h)
  -- the reference, from what the class leaves
  have ref : ∀ y : Int32, y = (if N < q then (if a.toInt = 0 then Int32.ofNat (100 * (q - N)) else -(Int32.ofNat (100 * (q - N)))) else (0 : Int32)) → ∀ G : t2_F, (∀ p : Nat, p < 181 ∨ 271 ≤ p → G p = f p) → fl_Tq (pw_P L xs) 316 0 (fl_args (am_mxl (pw_P L xs) 316) [at_this, .inl a, .inl b]) [] (G, l) (fun v2 _ => v2 = some (.inl y)) := by
    intro y hy G hG
    have g280 : G 280 = f 280 := hG 280 (Or.inr (by decide))
    show fl_Tq (pw_P L xs) 316 0 [some (.inr (.inr (.inl (76, 277)))), some (.inl a), some (.inl b), none] [] (G, l) _
    refine z316_A (fun h => absurd ?_ (r_i0.mp h)) (fun _ => ?_)
    · rw [c0, c1]
      exact va
    refine fl_Tq.cal rfl rfl (fl_bo rfl) rfl ?_
    refine r_canRun_q ?_
    refine z316_B (fun h => ?_) (fun _ _ => ?_) (fun _ h => absurd (by rw [g280, c2]; exact h2) h)
    · rw [t2_can (by rw [g280]; exact t7) (by omega), g280, c60] at h
      exact absurd ⟨vb, vT⟩ h
    rw [g280, hund _ Q (by omega) (by omega) hQ]
    refine (t2_for (n := (Q - q) + N) (S := fun k => ∀ g : t2_F, (∀ w : Nat, 2 ≤ w → w < 1420 → g 280 w = f 280 w) → g 279 = f 279 → fl_Tq (pw_P L xs) 316 43 [some (.inr (.inr (.inl (76, 277)))), some (.inl a), some (.inl b), some (.inl (Int32.ofNat (100 * (Q - k))))] [] (g, l) (fun v2 _ => v2 = some (.inl y))) (fun k hk hS => ?_) ?_) G (fun w _ _ => by rw [g280]) (hG 279 (Or.inr (by decide)))
    · intro g g1 g2
      have es := at_ofN (k := 100 * (Q - k)) (by omega)
      refine z316_C (fun _ => ?_) (fun h => absurd (by rw [es]; omega) h)
      refine fl_Tq.cal rfl rfl (fl_bo rfl) rfl ?_
      refine fl_Tq.mono (y_goes_q hg g1 g2 (vr (Q - k) (by omega)) hn (by omega)) ?_
      rintro r m ⟨G', rfl, k1, k2, rfl⟩
      refine z316_D (fun _ => ?_) (fun h => absurd ?_ h)
      · rw [down (Q - k) (by omega) (by omega), show Q - k - 1 = Q - (k + 1) by omega]
        exact hS G' k1 k2
      · by_cases hk2 : q < Q - k
        · rw [far (Q - k) hk2 (by omega)]
          exact c0
        · have := f0 (k - (Q - q)) (by omega)
          rw [show q - (k - (Q - q)) = Q - k by omega] at this
          exact this
    · intro g g1 g2
      rw [show Q - ((Q - q) + N) = q - N by omega]
      have es := at_ofN (k := 100 * (q - N)) (by omega)
      refine z316_C (fun h => ?_) (fun h => ?_)
      · rw [es] at h
        have hN : N < q := by omega
        refine fl_Tq.cal rfl rfl (fl_bo rfl) rfl ?_
        refine fl_Tq.mono (y_goes_q hg g1 g2 (vr (q - N) (by omega)) hn (by omega)) ?_
        rintro r m ⟨G', rfl, k1, k2, rfl⟩
        refine z316_D (fun h => absurd h (f1 hN)) (fun _ => ?_)
        rw [hy, if_pos hN]
      · rw [es] at h
        rw [hy, if_neg (by omega)]
  refine (t2_for (n := N) (S := fun k => ∀ G : t2_F, t2_Z (G, l) → (∀ p : Nat, p < 181 ∨ 271 ≤ p → G p = f p) → fl_Tq (pw_P L xs) 164 84 [some (.inr (.inr (.inl (0, 0)))), some (.inl a), some (.inl b), some (.inl fi), some (.inl (if a.toInt = 0 then (1 : Int32) else (-1 : Int32))), some (.inl (Int32.ofNat (100 * (q - k))))] [] (G, l) (fun v m => ∃ (G : t2_F) (y : Int32), v = some (.inl y) ∧ m = (G, l) ∧ (∀ p : Nat, p < 181 ∨ 271 ≤ p → G p = f p) ∧ fl_Tq (pw_P L xs) 316 0 (fl_args (am_mxl (pw_P L xs) 316) [at_this, .inl a, .inl b]) [] (G, l) (fun v2 _ => v2 = some (.inl y)))) (fun k hk hS => ?_) ?_) f hg (fun p _ => rfl)
  · intro G ZG hG
    have es := at_ofN (k := 100 * (q - k)) (by omega)
    refine x_po_C (fun _ => ?_) (fun h => absurd (by rw [es]; omega) h)
    rw [vv (q - k) (by omega)]
    refine fl_Tq.cal rfl rfl (fl_bo rfl) rfl ?_
    refine fl_Tq.mono (x_bears_q hall ZG hG (vr (q - k) (by omega)) hn (by omega)) ?_
    rintro r m ⟨G', rfl, Z', k1, rfl⟩
    refine x_po_D (fun _ => ?_) (fun h => absurd (f0 k hk) h)
    rw [down (q - k) (by omega) (by omega), show q - k - 1 = q - (k + 1) by omega]
    exact hS G' Z' (fun p hp => by rw [k1 p hp, hG p hp])
  · intro G ZG hG
    have es := at_ofN (k := 100 * (q - N)) (by omega)
    refine x_po_C (fun h => ?_) (fun h => ?_)
    · rw [es] at h
      have hN : N < q := by omega
      rw [vv (q - N) (by omega)]
      refine fl_Tq.cal rfl rfl (fl_bo rfl) rfl ?_
      refine fl_Tq.mono (x_bears_q hall ZG hG (vr (q - N) (by omega)) hn (by omega)) ?_
      rintro r m ⟨G', rfl, Z', k1, rfl⟩
      have k2 : ∀ p : Nat, p < 181 ∨ 271 ≤ p → G' p = f p := fun p hp => by rw [k1 p hp, hG p hp]
      refine x_po_D (fun h => absurd h (f1 hN)) (fun _ => ?_)
      rw [vv (q - N) (by omega)]
      exact ⟨G', _, rfl, rfl, k2, ref _ (by rw [if_pos hN]) G' k2⟩
    · rw [es] at h
      exact ⟨G, _, rfl, rfl, hG, ref _ (by rw [if_neg (by omega)]) G hG⟩
end P62
